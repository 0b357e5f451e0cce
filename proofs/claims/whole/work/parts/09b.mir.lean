/-! the reference, mirrored: lay, feed, cut, stream, draft, value, nothing, relation, since, isIn, newRow, rowAt, copy, some, nothing0, both, ofTruth, some2, compare, compareRows, isLetter, isDigit, tell, wrong, fault, changes, isChange, change, changed, changedNull, rows, isAnswer, at, isNull, type, three, told, isGrouped, want, bounded, sourcesOf -/
theorem dX12_lay_0 : decode cX12_lay 0 = .ok (.bipush 24, 2) := by decide +kernel
theorem dX12_lay_2 : decode cX12_lay 2 = .ok (.istore_n 2, 1) := by decide +kernel
theorem dX12_lay_3 : decode cX12_lay 3 = .ok (.iload_n 2, 1) := by decide +kernel
theorem dX12_lay_4 : decode cX12_lay 4 = .ok (.ifCond .lt 32, 3) := by decide +kernel
theorem dX12_lay_7 : decode cX12_lay 7 = .ok (.aload_n 0, 1) := by decide +kernel
theorem dX12_lay_8 : decode cX12_lay 8 = .ok (.getfield 7, 3) := by decide +kernel
theorem dX12_lay_11 : decode cX12_lay 11 = .ok (.aload_n 0, 1) := by decide +kernel
theorem dX12_lay_12 : decode cX12_lay 12 = .ok (.getfield 253, 3) := by decide +kernel
theorem dX12_lay_15 : decode cX12_lay 15 = .ok (.iload_n 1, 1) := by decide +kernel
theorem dX12_lay_16 : decode cX12_lay 16 = .ok (.iload_n 2, 1) := by decide +kernel
theorem dX12_lay_17 : decode cX12_lay 17 = .ok (.ishr, 1) := by decide +kernel
theorem dX12_lay_18 : decode cX12_lay 18 = .ok (.i2b, 1) := by decide +kernel
theorem dX12_lay_19 : decode cX12_lay 19 = .ok (.bastore, 1) := by decide +kernel
theorem dX12_lay_20 : decode cX12_lay 20 = .ok (.aload_n 0, 1) := by decide +kernel
theorem dX12_lay_21 : decode cX12_lay 21 = .ok (.dup, 1) := by decide +kernel
theorem dX12_lay_22 : decode cX12_lay 22 = .ok (.getfield 253, 3) := by decide +kernel
theorem dX12_lay_25 : decode cX12_lay 25 = .ok (.iconst 1, 1) := by decide +kernel
theorem dX12_lay_26 : decode cX12_lay 26 = .ok (.iadd, 1) := by decide +kernel
theorem dX12_lay_27 : decode cX12_lay 27 = .ok (.putfield 253, 3) := by decide +kernel
theorem dX12_lay_30 : decode cX12_lay 30 = .ok (.iinc 2 (-8), 3) := by decide +kernel
theorem dX12_lay_33 : decode cX12_lay 33 = .ok (.goto (-30), 3) := by decide +kernel
theorem dX12_lay_36 : decode cX12_lay 36 = .ok (.return_, 1) := by decide +kernel
def m_lay_L3 (F : Nat) : Nat → RS → Int32 → Int32 → Option RS
  | 0, _, _, _ => none
  | lf_3 + 1, cs1, u1, u2 => if u2 < 0 then (some cs1) else (Option.bind (wrI cs1 0 2000 (cs1.1 1) (vp_nar .byte ((u1 >>> (u2 &&& 31)).toInt8.toInt32))) fun cs_2 => (m_lay_L3 F lf_3) (setF cs_2 1 ((cs_2.1 1) + 1)) u1 (u2 + (-8)))
def m_lay (F : Nat) (cs : RS) (x1 : Int32) : Option RS := m_lay_L3 F F cs x1 24
set_option maxHeartbeats 4000000 in
set_option maxRecDepth 100000 in
theorem s_lay (l : Launch) (dC : Nat → ClassId) (dI : Nat → Nat → Nat) (cB cI cJ cZ : ClassId) (h0 : Nat) (a : Nat → Nat) (K V : Nat → Nat) (fz : Value) (F : Nat) (cs : RS) (x1 : Int32) (cs9 : RS) (hf : m_lay F cs x1 = some cs9) : okV l dC dI cB cI cJ cZ h0 a K V fz yX12_lay (wsOf yX12_lay cX12_lay 3 none) (0) [.ref h0, .int x1] cs cs9 := by
  intro sz
  refine Met.ofW (cc := cX12_lay) (maxL := 3) (ret := none) (by decide) rfl ?_
  intro p e s m args below meth c s₁ B hml hv
  obtain ⟨rfl, hsz, hP, hK, hD0, hZ⟩ := hv
  have hx := B.exec
  have hb := B.bytes
  have hr := B.returns
  have hts := atoms_spec (ws := (wsOf yX12_lay cX12_lay 3 none)) B.pre
  have hown : s.vm.findClass RX12 = some m.cls := findClass_of_methodNamed B.named
  have hlocks := B.notSynchronized
  subst hsz
  have hD := hD0.self (sz := s.heap.size)
  generalize hAe : va_A (mW cB cI cJ cZ h0 a cs) s.heap.size = A at hD hZ ⊢
  have hA : ∀ q : Nat, s.heap.size ≤ q → A q := fun q h => by rw [← hAe]; exact Or.inr h
  have hS : va_S A s.heap s.heap [] := va_S.rf
  have hl := lv_entry ([.ref h0, .int x1]) (n := 3) (Nat.le_of_ble_eq_true rfl)
  rw [lg_entry_eq]
  generalize (lg_sl ([.ref h0, .int x1]) ++ List.replicate (3 - (lg_sl ([.ref h0, .int x1])).length) Slot.unset).toArray = ls at hl ⊢
  have hl : lv_has ls 3 [(0, .ref h0), (1, .int x1)] := hl
  have L_3 : ∀ (lf_3 : Nat), ∀ (cs1 : RS) (u1 : Int32) (u2 : Int32), m_lay_L3 F lf_3 cs1 u1 u2 = some cs9 → ∀ (H : Heap) (locs : List Loc) (ls : Array Slot), va_P (dC, dI) vwCl (mW cB cI cJ cZ h0 a cs1) H → va_D A (mW cB cI cJ cZ h0 a cs1) → va_S A s.heap H locs → lv_has ls 3 [(0, .ref h0), (1, .int u1), (2, .int u2)] → W p l e (headSpec (wsOf yX12_lay cX12_lay 3 none) ({ frames := 0, cells := 0, slots := 0, locals := 60 * (0) } : Room)).room s m ([.ref h0, .int x1] : List Value).toArray below meth c H locs 0 0 (MQ below (va_Qv (fun (_ : Unit) => True) (fun _ t_ => va_P (dC, dI) vwCl (mW cB cI cJ cZ h0 a cs9) t_.heap ∧ va_D A (mW cB cI cJ cZ h0 a cs9)) A) ([.ref h0, .int x1] : List Value).toArray s 0 0 A) (F0 m 3 ls []) := by
    intro lf_3
    induction lf_3 with
    | zero => intro cs1 u1 u2 h; cases (show (none : Option RS) = _ from h)
    | succ lf_3 ih_3 =>
      intro cs1 u1 u2 h H locs ls hP hD hS hl
      rw [m_lay_L3] at h
      refine lv_iload_n hx hb dX12_lay_3 rfl (lv_at hl 2 rfl) ?_
      refine lv_if_lt (tgt := 36) hx hb dX12_lay_4 (by decide) (fun c_1 => ?_) (fun c_1 => ?_)
      · skip
        replace h := (if_pos c_1).symm.trans h
        have e1 := Option.some.inj h
        rw [e1] at hP hD
        exact W.vret hx hb hr (fun t_ ht hW => ⟨⟨(), rfl, trivial, by rw [ht]; exact hP, hD⟩, hS.F ht⟩) hS.2.2 dX12_lay_36
      · skip
        replace h := (if_neg c_1).symm.trans h
        refine lv_aload_n hx hb dX12_lay_7 rfl (lv_at hl 0 rfl) ?_
        refine fg_0 hx hb hts hown hK hP dX12_lay_8 ?_
        refine lv_aload_n hx hb dX12_lay_11 rfl (lv_at hl 0 rfl) ?_
        refine fg_1 hx hb hts hown hK hP dX12_lay_12 ?_
        refine lv_iload_n hx hb dX12_lay_15 rfl (lv_at hl 1 rfl) ?_
        refine lv_iload_n hx hb dX12_lay_16 rfl (lv_at hl 2 rfl) ?_
        refine lv_ishr hx hb dX12_lay_17 ?_
        refine lv_i2b hx hb dX12_lay_18 rfl ?_
        obtain ⟨cs_2, hv_2, h⟩ := ob h
        refine ap_0 hx hb hK hP hD hS hv_2 dX12_lay_19 (fun H locs hP hD hS => ?_)
        refine lv_aload_n hx hb dX12_lay_20 rfl (lv_at hl 0 rfl) ?_
        refine lv_dup hx hb dX12_lay_21 rfl ?_
        refine fg_1 hx hb hts hown hK hP dX12_lay_22 ?_
        refine lv_iconst (v := 1) hx hb dX12_lay_25 (by decide) ?_
        refine lv_iadd hx hb dX12_lay_26 ?_
        refine fp_1 hx hb hts hown hK hP hD hS dX12_lay_27 (fun H locs hP hD hS => ?_)
        refine lv_iinc (v := u2 + (-8)) (lv' := [(2, .int (u2 + (-8))), (0, .ref h0), (1, .int u1)]) hx hb dX12_lay_30 hl (k := 2) rfl rfl (by decide) rfl (fun ls hl => ?_)
        refine lv_goto (tgt := 3) hx hb dX12_lay_33 (by decide) ?_
        exact ih_3 (setF cs_2 1 ((cs_2.1 1) + 1)) u1 (u2 + (-8)) h _ _ _ hP hD hS (lv_sub hl [1, 2, 0] rfl)
  have h := hf
  unfold m_lay at h
  refine lv_bipush (v := 24) hx hb dX12_lay_0 (by decide) ?_
  refine lv_istore_n (lv' := [(2, .int 24), (0, .ref h0), (1, .int x1)]) hx hb dX12_lay_2 rfl hl (by decide) rfl (fun ls hl => ?_)
  exact L_3 F cs x1 24 h _ _ _ hP hD hS (lv_sub hl [1, 2, 0] rfl)
theorem cw_lay {R : Room} {s : State} {args : Array Value} {y0 : MethodName} {c0 : ByteArray} {n0 : Nat} {r0 : Option FieldType} (hts : ∀ w ∈ wsOf y0 c0 n0 r0, w.before args s = true) {fr : Nat} (h1 : fr + 1 ≤ R.frames) (h2 : 8 + (3 + 11) + 60 * fr ≤ R.locals) : CallW R s args RX12 RX12 257 yX12_lay cX12_lay 3 none (wsOf yX12_lay cX12_lay 3 none) ({ frames := fr, cells := 0, slots := 0, locals := 60 * fr } : Room) 0 0 1 := cwV 1 hts (gd_all (in_V kw_2045 kw_2047 kw_97 kw_191 kc_X12_lay)) rfl rfl rfl (by decide +kernel) ⟨h1, h2⟩
theorem dX12_feed_0 : decode cX12_feed 0 = .ok (.aload_n 0, 1) := by decide +kernel
theorem dX12_feed_1 : decode cX12_feed 1 = .ok (.getfield 253, 3) := by decide +kernel
theorem dX12_feed_4 : decode cX12_feed 4 = .ok (.bipush 20, 2) := by decide +kernel
theorem dX12_feed_6 : decode cX12_feed 6 = .ok (.iadd, 1) := by decide +kernel
theorem dX12_feed_7 : decode cX12_feed 7 = .ok (.sipush 2000, 3) := by decide +kernel
theorem dX12_feed_10 : decode cX12_feed 10 = .ok (.if_icmp .le 5, 3) := by decide +kernel
theorem dX12_feed_13 : decode cX12_feed 13 = .ok (.iconst (-1), 1) := by decide +kernel
theorem dX12_feed_14 : decode cX12_feed 14 = .ok (.ireturn, 1) := by decide +kernel
theorem dX12_feed_15 : decode cX12_feed 15 = .ok (.aload_n 0, 1) := by decide +kernel
theorem dX12_feed_16 : decode cX12_feed 16 = .ok (.iload_n 1, 1) := by decide +kernel
theorem dX12_feed_17 : decode cX12_feed 17 = .ok (.invokevirtual 257, 3) := by decide +kernel
theorem dX12_feed_20 : decode cX12_feed 20 = .ok (.aload_n 0, 1) := by decide +kernel
theorem dX12_feed_21 : decode cX12_feed 21 = .ok (.iload_n 2, 1) := by decide +kernel
theorem dX12_feed_22 : decode cX12_feed 22 = .ok (.invokevirtual 257, 3) := by decide +kernel
theorem dX12_feed_25 : decode cX12_feed 25 = .ok (.aload_n 0, 1) := by decide +kernel
theorem dX12_feed_26 : decode cX12_feed 26 = .ok (.iload_n 3, 1) := by decide +kernel
theorem dX12_feed_27 : decode cX12_feed 27 = .ok (.invokevirtual 257, 3) := by decide +kernel
theorem dX12_feed_30 : decode cX12_feed 30 = .ok (.aload_n 0, 1) := by decide +kernel
theorem dX12_feed_31 : decode cX12_feed 31 = .ok (.iload 4, 2) := by decide +kernel
theorem dX12_feed_33 : decode cX12_feed 33 = .ok (.invokevirtual 257, 3) := by decide +kernel
theorem dX12_feed_36 : decode cX12_feed 36 = .ok (.aload_n 0, 1) := by decide +kernel
theorem dX12_feed_37 : decode cX12_feed 37 = .ok (.iload 5, 2) := by decide +kernel
theorem dX12_feed_39 : decode cX12_feed 39 = .ok (.invokevirtual 257, 3) := by decide +kernel
theorem dX12_feed_42 : decode cX12_feed 42 = .ok (.aload_n 0, 1) := by decide +kernel
theorem dX12_feed_43 : decode cX12_feed 43 = .ok (.getfield 253, 3) := by decide +kernel
theorem dX12_feed_46 : decode cX12_feed 46 = .ok (.ireturn, 1) := by decide +kernel
def m_feed (F : Nat) (cs : RS) (x1 : Int32) (x2 : Int32) (x3 : Int32) (x4 : Int32) (x5 : Int32) : Option (RS × Int32) := if ((cs.1 1) + 20) ≤ 2000 then (Option.bind (m_lay F cs x1) fun cs_2 => Option.bind (m_lay F cs_2 x2) fun cs_3 => Option.bind (m_lay F cs_3 x3) fun cs_4 => Option.bind (m_lay F cs_4 x4) fun cs_5 => Option.bind (m_lay F cs_5 x5) fun cs_6 => some (cs_6, cs_6.1 1)) else (some (cs, (-1)))
set_option maxHeartbeats 4000000 in
set_option maxRecDepth 100000 in
theorem s_feed (l : Launch) (dC : Nat → ClassId) (dI : Nat → Nat → Nat) (cB cI cJ cZ : ClassId) (h0 : Nat) (a : Nat → Nat) (K V : Nat → Nat) (fz : Value) (F : Nat) (cs : RS) (x1 : Int32) (x2 : Int32) (x3 : Int32) (x4 : Int32) (x5 : Int32) (cs9 : RS) (r9 : Int32) (hf : m_feed F cs x1 x2 x3 x4 x5 = some (cs9, r9)) : okI l dC dI cB cI cJ cZ h0 a K V fz yX12_feed (wsOf yX12_feed cX12_feed 6 (some .int)) (1) [.ref h0, .int x1, .int x2, .int x3, .int x4, .int x5] cs cs9 r9 := by
  intro sz
  refine Met.ofW (cc := cX12_feed) (maxL := 6) (ret := (some .int)) (by decide) rfl ?_
  intro p e s m args below meth c s₁ B hml hv
  obtain ⟨rfl, hsz, hP, hK, hD0, hZ⟩ := hv
  have hx := B.exec
  have hb := B.bytes
  have hr := B.returns
  have hts := atoms_spec (ws := (wsOf yX12_feed cX12_feed 6 (some .int))) B.pre
  have hown : s.vm.findClass RX12 = some m.cls := findClass_of_methodNamed B.named
  have hlocks := B.notSynchronized
  subst hsz
  have hD := hD0.self (sz := s.heap.size)
  generalize hAe : va_A (mW cB cI cJ cZ h0 a cs) s.heap.size = A at hD hZ ⊢
  have hA : ∀ q : Nat, s.heap.size ≤ q → A q := fun q h => by rw [← hAe]; exact Or.inr h
  have hS : va_S A s.heap s.heap [] := va_S.rf
  have hl := lv_entry ([.ref h0, .int x1, .int x2, .int x3, .int x4, .int x5]) (n := 6) (Nat.le_of_ble_eq_true rfl)
  rw [lg_entry_eq]
  generalize (lg_sl ([.ref h0, .int x1, .int x2, .int x3, .int x4, .int x5]) ++ List.replicate (6 - (lg_sl ([.ref h0, .int x1, .int x2, .int x3, .int x4, .int x5])).length) Slot.unset).toArray = ls at hl ⊢
  have hl : lv_has ls 6 [(0, .ref h0), (1, .int x1), (2, .int x2), (3, .int x3), (4, .int x4), (5, .int x5)] := hl
  have h := hf
  unfold m_feed at h
  refine lv_aload_n hx hb dX12_feed_0 rfl (lv_at hl 0 rfl) ?_
  refine fg_1 hx hb hts hown hK hP dX12_feed_1 ?_
  refine lv_bipush (v := 20) hx hb dX12_feed_4 (by decide) ?_
  refine lv_iadd hx hb dX12_feed_6 ?_
  refine lv_sipush (v := 2000) hx hb dX12_feed_7 (by decide) ?_
  refine lv_icmp_le (tgt := 15) hx hb dX12_feed_10 (by decide) (fun c_1 => ?_) (fun c_1 => ?_)
  · skip
    replace h := (if_pos c_1).symm.trans h
    refine lv_aload_n hx hb dX12_feed_15 rfl (lv_at hl 0 rfl) ?_
    refine lv_iload_n hx hb dX12_feed_16 rfl (lv_at hl 1 rfl) ?_
    obtain ⟨cs_2, hv_2, h⟩ := ob h
    refine calV (As := [.int x1]) hx hb hml hts hown hK hP hD hS hA hZ (s_lay l dC dI cB cI cJ cZ h0 a K V fz F cs x1 cs_2 hv_2) (cw_lay hts (fr := 0) (Nat.le_of_ble_eq_true rfl) (Nat.le_of_ble_eq_true rfl)) rfl hl.1 (Nat.le_of_ble_eq_true rfl) ⟨Nat.zero_le _, Nat.zero_le _⟩ dX12_feed_17 (fun H locs hP hD hS => ?_)
    refine lv_aload_n hx hb dX12_feed_20 rfl (lv_at hl 0 rfl) ?_
    refine lv_iload_n hx hb dX12_feed_21 rfl (lv_at hl 2 rfl) ?_
    obtain ⟨cs_3, hv_3, h⟩ := ob h
    refine calV (As := [.int x2]) hx hb hml hts hown hK hP hD hS hA hZ (s_lay l dC dI cB cI cJ cZ h0 a K V fz F cs_2 x2 cs_3 hv_3) (cw_lay hts (fr := 0) (Nat.le_of_ble_eq_true rfl) (Nat.le_of_ble_eq_true rfl)) rfl hl.1 (Nat.le_of_ble_eq_true rfl) ⟨Nat.zero_le _, Nat.zero_le _⟩ dX12_feed_22 (fun H locs hP hD hS => ?_)
    refine lv_aload_n hx hb dX12_feed_25 rfl (lv_at hl 0 rfl) ?_
    refine lv_iload_n hx hb dX12_feed_26 rfl (lv_at hl 3 rfl) ?_
    obtain ⟨cs_4, hv_4, h⟩ := ob h
    refine calV (As := [.int x3]) hx hb hml hts hown hK hP hD hS hA hZ (s_lay l dC dI cB cI cJ cZ h0 a K V fz F cs_3 x3 cs_4 hv_4) (cw_lay hts (fr := 0) (Nat.le_of_ble_eq_true rfl) (Nat.le_of_ble_eq_true rfl)) rfl hl.1 (Nat.le_of_ble_eq_true rfl) ⟨Nat.zero_le _, Nat.zero_le _⟩ dX12_feed_27 (fun H locs hP hD hS => ?_)
    refine lv_aload_n hx hb dX12_feed_30 rfl (lv_at hl 0 rfl) ?_
    refine lv_iload hx hb dX12_feed_31 (lv_at hl 4 rfl) ?_
    obtain ⟨cs_5, hv_5, h⟩ := ob h
    refine calV (As := [.int x4]) hx hb hml hts hown hK hP hD hS hA hZ (s_lay l dC dI cB cI cJ cZ h0 a K V fz F cs_4 x4 cs_5 hv_5) (cw_lay hts (fr := 0) (Nat.le_of_ble_eq_true rfl) (Nat.le_of_ble_eq_true rfl)) rfl hl.1 (Nat.le_of_ble_eq_true rfl) ⟨Nat.zero_le _, Nat.zero_le _⟩ dX12_feed_33 (fun H locs hP hD hS => ?_)
    refine lv_aload_n hx hb dX12_feed_36 rfl (lv_at hl 0 rfl) ?_
    refine lv_iload hx hb dX12_feed_37 (lv_at hl 5 rfl) ?_
    obtain ⟨cs_6, hv_6, h⟩ := ob h
    refine calV (As := [.int x5]) hx hb hml hts hown hK hP hD hS hA hZ (s_lay l dC dI cB cI cJ cZ h0 a K V fz F cs_5 x5 cs_6 hv_6) (cw_lay hts (fr := 0) (Nat.le_of_ble_eq_true rfl) (Nat.le_of_ble_eq_true rfl)) rfl hl.1 (Nat.le_of_ble_eq_true rfl) ⟨Nat.zero_le _, Nat.zero_le _⟩ dX12_feed_39 (fun H locs hP hD hS => ?_)
    refine lv_aload_n hx hb dX12_feed_42 rfl (lv_at hl 0 rfl) ?_
    refine fg_1 hx hb hts hown hK hP dX12_feed_43 ?_
    obtain ⟨e1, e2⟩ := Prod.mk.inj (Option.some.inj h)
    rw [e1] at hP hD
    exact W.iret (v := cs_6.1 1) hx hb hr (fun t_ ht hW => ⟨⟨cs_6.1 1, (), rfl, e2, by rw [ht]; exact hP, hD⟩, hS.F ht⟩) hS.2.2 dX12_feed_46
  · skip
    replace h := (if_neg c_1).symm.trans h
    refine lv_iconst (v := (-1)) hx hb dX12_feed_13 (by decide) ?_
    obtain ⟨e1, e2⟩ := Prod.mk.inj (Option.some.inj h)
    rw [e1] at hP hD
    exact W.iret (v := (-1)) hx hb hr (fun t_ ht hW => ⟨⟨(-1), (), rfl, e2, by rw [ht]; exact hP, hD⟩, hS.F ht⟩) hS.2.2 dX12_feed_14
theorem dX12_cut_0 : decode cX12_cut 0 = .ok (.iload_n 1, 1) := by decide +kernel
theorem dX12_cut_1 : decode cX12_cut 1 = .ok (.ifCond .lt 11, 3) := by decide +kernel
theorem dX12_cut_4 : decode cX12_cut 4 = .ok (.iload_n 1, 1) := by decide +kernel
theorem dX12_cut_5 : decode cX12_cut 5 = .ok (.aload_n 0, 1) := by decide +kernel
theorem dX12_cut_6 : decode cX12_cut 6 = .ok (.getfield 253, 3) := by decide +kernel
theorem dX12_cut_9 : decode cX12_cut 9 = .ok (.if_icmp .le 5, 3) := by decide +kernel
theorem dX12_cut_12 : decode cX12_cut 12 = .ok (.iconst (-1), 1) := by decide +kernel
theorem dX12_cut_13 : decode cX12_cut 13 = .ok (.ireturn, 1) := by decide +kernel
theorem dX12_cut_14 : decode cX12_cut 14 = .ok (.aload_n 0, 1) := by decide +kernel
theorem dX12_cut_15 : decode cX12_cut 15 = .ok (.getfield 253, 3) := by decide +kernel
theorem dX12_cut_18 : decode cX12_cut 18 = .ok (.iload_n 1, 1) := by decide +kernel
theorem dX12_cut_19 : decode cX12_cut 19 = .ok (.isub, 1) := by decide +kernel
theorem dX12_cut_20 : decode cX12_cut 20 = .ok (.istore_n 2, 1) := by decide +kernel
theorem dX12_cut_21 : decode cX12_cut 21 = .ok (.aload_n 0, 1) := by decide +kernel
theorem dX12_cut_22 : decode cX12_cut 22 = .ok (.iload_n 1, 1) := by decide +kernel
theorem dX12_cut_23 : decode cX12_cut 23 = .ok (.putfield 253, 3) := by decide +kernel
theorem dX12_cut_26 : decode cX12_cut 26 = .ok (.iload_n 2, 1) := by decide +kernel
theorem dX12_cut_27 : decode cX12_cut 27 = .ok (.ireturn, 1) := by decide +kernel
def m_cut_b12 (F : Nat) (cs1 : RS) : Option (RS × Int32) := some (cs1, (-1))
def m_cut (F : Nat) (cs : RS) (x1 : Int32) : Option (RS × Int32) := if x1 < 0 then (m_cut_b12 F cs) else (if x1 ≤ (cs.1 1) then (some (setF cs 1 x1, (cs.1 1) - x1)) else (m_cut_b12 F cs))
set_option maxHeartbeats 4000000 in
set_option maxRecDepth 100000 in
theorem s_cut (l : Launch) (dC : Nat → ClassId) (dI : Nat → Nat → Nat) (cB cI cJ cZ : ClassId) (h0 : Nat) (a : Nat → Nat) (K V : Nat → Nat) (fz : Value) (F : Nat) (cs : RS) (x1 : Int32) (cs9 : RS) (r9 : Int32) (hf : m_cut F cs x1 = some (cs9, r9)) : okI l dC dI cB cI cJ cZ h0 a K V fz yX12_cut (wsOf yX12_cut cX12_cut 3 (some .int)) (0) [.ref h0, .int x1] cs cs9 r9 := by
  intro sz
  refine Met.ofW (cc := cX12_cut) (maxL := 3) (ret := (some .int)) (by decide) rfl ?_
  intro p e s m args below meth c s₁ B hml hv
  obtain ⟨rfl, hsz, hP, hK, hD0, hZ⟩ := hv
  have hx := B.exec
  have hb := B.bytes
  have hr := B.returns
  have hts := atoms_spec (ws := (wsOf yX12_cut cX12_cut 3 (some .int))) B.pre
  have hown : s.vm.findClass RX12 = some m.cls := findClass_of_methodNamed B.named
  have hlocks := B.notSynchronized
  subst hsz
  have hD := hD0.self (sz := s.heap.size)
  generalize hAe : va_A (mW cB cI cJ cZ h0 a cs) s.heap.size = A at hD hZ ⊢
  have hA : ∀ q : Nat, s.heap.size ≤ q → A q := fun q h => by rw [← hAe]; exact Or.inr h
  have hS : va_S A s.heap s.heap [] := va_S.rf
  have hl := lv_entry ([.ref h0, .int x1]) (n := 3) (Nat.le_of_ble_eq_true rfl)
  rw [lg_entry_eq]
  generalize (lg_sl ([.ref h0, .int x1]) ++ List.replicate (3 - (lg_sl ([.ref h0, .int x1])).length) Slot.unset).toArray = ls at hl ⊢
  have hl : lv_has ls 3 [(0, .ref h0), (1, .int x1)] := hl
  have B_12 : ∀ (cs1 : RS) , m_cut_b12 F cs1 = some (cs9, r9) → ∀ (H : Heap) (locs : List Loc) (ls : Array Slot), va_P (dC, dI) vwCl (mW cB cI cJ cZ h0 a cs1) H → va_D A (mW cB cI cJ cZ h0 a cs1) → va_S A s.heap H locs → lv_has ls 3 [] → W p l e (headSpec (wsOf yX12_cut cX12_cut 3 (some .int)) ({ frames := 0, cells := 0, slots := 0, locals := 60 * (0) } : Room)).room s m ([.ref h0, .int x1] : List Value).toArray below meth c H locs 0 0 (MQ below (va_Qi (fun (x : Int32) (_ : Unit) => x = r9) (fun _ t_ => va_P (dC, dI) vwCl (mW cB cI cJ cZ h0 a cs9) t_.heap ∧ va_D A (mW cB cI cJ cZ h0 a cs9)) A) ([.ref h0, .int x1] : List Value).toArray s 0 0 A) (F0 m 12 ls []) := by
    intro cs1  h H locs ls hP hD hS hl
    unfold m_cut_b12 at h
    refine lv_iconst (v := (-1)) hx hb dX12_cut_12 (by decide) ?_
    obtain ⟨e1, e2⟩ := Prod.mk.inj (Option.some.inj h)
    rw [e1] at hP hD
    exact W.iret (v := (-1)) hx hb hr (fun t_ ht hW => ⟨⟨(-1), (), rfl, e2, by rw [ht]; exact hP, hD⟩, hS.F ht⟩) hS.2.2 dX12_cut_13
  have h := hf
  unfold m_cut at h
  refine lv_iload_n hx hb dX12_cut_0 rfl (lv_at hl 1 rfl) ?_
  refine lv_if_lt (tgt := 12) hx hb dX12_cut_1 (by decide) (fun c_1 => ?_) (fun c_1 => ?_)
  · skip
    replace h := (if_pos c_1).symm.trans h
    exact B_12 cs h _ _ _ hP hD hS (lv_sub hl [] rfl)
  · skip
    replace h := (if_neg c_1).symm.trans h
    refine lv_iload_n hx hb dX12_cut_4 rfl (lv_at hl 1 rfl) ?_
    refine lv_aload_n hx hb dX12_cut_5 rfl (lv_at hl 0 rfl) ?_
    refine fg_1 hx hb hts hown hK hP dX12_cut_6 ?_
    refine lv_icmp_le (tgt := 14) hx hb dX12_cut_9 (by decide) (fun c_2 => ?_) (fun c_2 => ?_)
    · skip
      replace h := (if_pos c_2).symm.trans h
      refine lv_aload_n hx hb dX12_cut_14 rfl (lv_at hl 0 rfl) ?_
      refine fg_1 hx hb hts hown hK hP dX12_cut_15 ?_
      refine lv_iload_n hx hb dX12_cut_18 rfl (lv_at hl 1 rfl) ?_
      refine lv_isub hx hb dX12_cut_19 ?_
      refine lv_istore_n (lv' := [(2, .int ((cs.1 1) - x1)), (0, .ref h0), (1, .int x1)]) hx hb dX12_cut_20 rfl hl (by decide) rfl (fun ls hl => ?_)
      refine lv_aload_n hx hb dX12_cut_21 rfl (lv_at hl 1 rfl) ?_
      refine lv_iload_n hx hb dX12_cut_22 rfl (lv_at hl 2 rfl) ?_
      refine fp_1 hx hb hts hown hK hP hD hS dX12_cut_23 (fun H locs hP hD hS => ?_)
      refine lv_iload_n hx hb dX12_cut_26 rfl (lv_at hl 0 rfl) ?_
      obtain ⟨e1, e2⟩ := Prod.mk.inj (Option.some.inj h)
      rw [e1] at hP hD
      exact W.iret (v := (cs.1 1) - x1) hx hb hr (fun t_ ht hW => ⟨⟨(cs.1 1) - x1, (), rfl, e2, by rw [ht]; exact hP, hD⟩, hS.F ht⟩) hS.2.2 dX12_cut_27
    · skip
      replace h := (if_neg c_2).symm.trans h
      exact B_12 cs h _ _ _ hP hD hS (lv_sub hl [] rfl)
theorem dX12_stream_0 : decode cX12_stream 0 = .ok (.iload_n 1, 1) := by decide +kernel
theorem dX12_stream_1 : decode cX12_stream 1 = .ok (.iconst 1, 1) := by decide +kernel
theorem dX12_stream_2 : decode cX12_stream 2 = .ok (.if_icmp .lt 17, 3) := by decide +kernel
theorem dX12_stream_5 : decode cX12_stream 5 = .ok (.iload_n 1, 1) := by decide +kernel
theorem dX12_stream_6 : decode cX12_stream 6 = .ok (.iconst 4, 1) := by decide +kernel
theorem dX12_stream_7 : decode cX12_stream 7 = .ok (.if_icmp .gt 12, 3) := by decide +kernel
theorem dX12_stream_10 : decode cX12_stream 10 = .ok (.aload_n 0, 1) := by decide +kernel
theorem dX12_stream_11 : decode cX12_stream 11 = .ok (.getfield 261, 3) := by decide +kernel
theorem dX12_stream_14 : decode cX12_stream 14 = .ok (.bipush 6, 2) := by decide +kernel
theorem dX12_stream_16 : decode cX12_stream 16 = .ok (.if_icmp .ne 5, 3) := by decide +kernel
theorem dX12_stream_19 : decode cX12_stream 19 = .ok (.iconst (-1), 1) := by decide +kernel
theorem dX12_stream_20 : decode cX12_stream 20 = .ok (.ireturn, 1) := by decide +kernel
theorem dX12_stream_21 : decode cX12_stream 21 = .ok (.aload_n 0, 1) := by decide +kernel
theorem dX12_stream_22 : decode cX12_stream 22 = .ok (.getfield 16, 3) := by decide +kernel
theorem dX12_stream_25 : decode cX12_stream 25 = .ok (.aload_n 0, 1) := by decide +kernel
theorem dX12_stream_26 : decode cX12_stream 26 = .ok (.getfield 261, 3) := by decide +kernel
theorem dX12_stream_29 : decode cX12_stream 29 = .ok (.iload_n 1, 1) := by decide +kernel
theorem dX12_stream_30 : decode cX12_stream 30 = .ok (.iastore, 1) := by decide +kernel
theorem dX12_stream_31 : decode cX12_stream 31 = .ok (.aload_n 0, 1) := by decide +kernel
theorem dX12_stream_32 : decode cX12_stream 32 = .ok (.dup, 1) := by decide +kernel
theorem dX12_stream_33 : decode cX12_stream 33 = .ok (.getfield 261, 3) := by decide +kernel
theorem dX12_stream_36 : decode cX12_stream 36 = .ok (.iconst 1, 1) := by decide +kernel
theorem dX12_stream_37 : decode cX12_stream 37 = .ok (.iadd, 1) := by decide +kernel
theorem dX12_stream_38 : decode cX12_stream 38 = .ok (.putfield 261, 3) := by decide +kernel
theorem dX12_stream_41 : decode cX12_stream 41 = .ok (.aload_n 0, 1) := by decide +kernel
theorem dX12_stream_42 : decode cX12_stream 42 = .ok (.getfield 261, 3) := by decide +kernel
theorem dX12_stream_45 : decode cX12_stream 45 = .ok (.iconst 1, 1) := by decide +kernel
theorem dX12_stream_46 : decode cX12_stream 46 = .ok (.isub, 1) := by decide +kernel
theorem dX12_stream_47 : decode cX12_stream 47 = .ok (.ireturn, 1) := by decide +kernel
def m_stream_b19 (F : Nat) (cs1 : RS) : Option (RS × Int32) := some (cs1, (-1))
def m_stream (F : Nat) (cs : RS) (x1 : Int32) : Option (RS × Int32) := if x1 < 1 then (m_stream_b19 F cs) else (if 4 < x1 then (m_stream_b19 F cs) else (if (cs.1 4) = 6 then (m_stream_b19 F cs) else (Option.bind (wrI cs 5 6 (cs.1 4) x1) fun cs_4 => some (setF cs_4 4 ((cs_4.1 4) + 1), ((setF cs_4 4 ((cs_4.1 4) + 1)).1 4) - 1))))
set_option maxHeartbeats 4000000 in
set_option maxRecDepth 100000 in
theorem s_stream (l : Launch) (dC : Nat → ClassId) (dI : Nat → Nat → Nat) (cB cI cJ cZ : ClassId) (h0 : Nat) (a : Nat → Nat) (K V : Nat → Nat) (fz : Value) (F : Nat) (cs : RS) (x1 : Int32) (cs9 : RS) (r9 : Int32) (hf : m_stream F cs x1 = some (cs9, r9)) : okI l dC dI cB cI cJ cZ h0 a K V fz yX12_stream (wsOf yX12_stream cX12_stream 2 (some .int)) (0) [.ref h0, .int x1] cs cs9 r9 := by
  intro sz
  refine Met.ofW (cc := cX12_stream) (maxL := 2) (ret := (some .int)) (by decide) rfl ?_
  intro p e s m args below meth c s₁ B hml hv
  obtain ⟨rfl, hsz, hP, hK, hD0, hZ⟩ := hv
  have hx := B.exec
  have hb := B.bytes
  have hr := B.returns
  have hts := atoms_spec (ws := (wsOf yX12_stream cX12_stream 2 (some .int))) B.pre
  have hown : s.vm.findClass RX12 = some m.cls := findClass_of_methodNamed B.named
  have hlocks := B.notSynchronized
  subst hsz
  have hD := hD0.self (sz := s.heap.size)
  generalize hAe : va_A (mW cB cI cJ cZ h0 a cs) s.heap.size = A at hD hZ ⊢
  have hA : ∀ q : Nat, s.heap.size ≤ q → A q := fun q h => by rw [← hAe]; exact Or.inr h
  have hS : va_S A s.heap s.heap [] := va_S.rf
  have hl := lv_entry ([.ref h0, .int x1]) (n := 2) (Nat.le_of_ble_eq_true rfl)
  rw [lg_entry_eq]
  generalize (lg_sl ([.ref h0, .int x1]) ++ List.replicate (2 - (lg_sl ([.ref h0, .int x1])).length) Slot.unset).toArray = ls at hl ⊢
  have hl : lv_has ls 2 [(0, .ref h0), (1, .int x1)] := hl
  have B_19 : ∀ (cs1 : RS) , m_stream_b19 F cs1 = some (cs9, r9) → ∀ (H : Heap) (locs : List Loc) (ls : Array Slot), va_P (dC, dI) vwCl (mW cB cI cJ cZ h0 a cs1) H → va_D A (mW cB cI cJ cZ h0 a cs1) → va_S A s.heap H locs → lv_has ls 2 [] → W p l e (headSpec (wsOf yX12_stream cX12_stream 2 (some .int)) ({ frames := 0, cells := 0, slots := 0, locals := 60 * (0) } : Room)).room s m ([.ref h0, .int x1] : List Value).toArray below meth c H locs 0 0 (MQ below (va_Qi (fun (x : Int32) (_ : Unit) => x = r9) (fun _ t_ => va_P (dC, dI) vwCl (mW cB cI cJ cZ h0 a cs9) t_.heap ∧ va_D A (mW cB cI cJ cZ h0 a cs9)) A) ([.ref h0, .int x1] : List Value).toArray s 0 0 A) (F0 m 19 ls []) := by
    intro cs1  h H locs ls hP hD hS hl
    unfold m_stream_b19 at h
    refine lv_iconst (v := (-1)) hx hb dX12_stream_19 (by decide) ?_
    obtain ⟨e1, e2⟩ := Prod.mk.inj (Option.some.inj h)
    rw [e1] at hP hD
    exact W.iret (v := (-1)) hx hb hr (fun t_ ht hW => ⟨⟨(-1), (), rfl, e2, by rw [ht]; exact hP, hD⟩, hS.F ht⟩) hS.2.2 dX12_stream_20
  have h := hf
  unfold m_stream at h
  refine lv_iload_n hx hb dX12_stream_0 rfl (lv_at hl 1 rfl) ?_
  refine lv_iconst (v := 1) hx hb dX12_stream_1 (by decide) ?_
  refine lv_icmp_lt (tgt := 19) hx hb dX12_stream_2 (by decide) (fun c_1 => ?_) (fun c_1 => ?_)
  · skip
    replace h := (if_pos c_1).symm.trans h
    exact B_19 cs h _ _ _ hP hD hS (lv_sub hl [] rfl)
  · skip
    replace h := (if_neg c_1).symm.trans h
    refine lv_iload_n hx hb dX12_stream_5 rfl (lv_at hl 1 rfl) ?_
    refine lv_iconst (v := 4) hx hb dX12_stream_6 (by decide) ?_
    refine lv_icmp_gt (tgt := 19) hx hb dX12_stream_7 (by decide) (fun c_2 => ?_) (fun c_2 => ?_)
    · skip
      replace h := (if_pos c_2).symm.trans h
      exact B_19 cs h _ _ _ hP hD hS (lv_sub hl [] rfl)
    · skip
      replace h := (if_neg c_2).symm.trans h
      refine lv_aload_n hx hb dX12_stream_10 rfl (lv_at hl 0 rfl) ?_
      refine fg_4 hx hb hts hown hK hP dX12_stream_11 ?_
      refine lv_bipush (v := 6) hx hb dX12_stream_14 (by decide) ?_
      refine lv_icmp_ne (tgt := 21) hx hb dX12_stream_16 (by decide) (fun c_3 => ?_) (fun c_3 => ?_)
      · skip
        replace h := (if_neg c_3).symm.trans h
        refine lv_aload_n hx hb dX12_stream_21 rfl (lv_at hl 0 rfl) ?_
        refine fg_5 hx hb hts hown hK hP dX12_stream_22 ?_
        refine lv_aload_n hx hb dX12_stream_25 rfl (lv_at hl 0 rfl) ?_
        refine fg_4 hx hb hts hown hK hP dX12_stream_26 ?_
        refine lv_iload_n hx hb dX12_stream_29 rfl (lv_at hl 1 rfl) ?_
        obtain ⟨cs_4, hv_4, h⟩ := ob h
        refine ap_5 hx hb hK hP hD hS hv_4 dX12_stream_30 (fun H locs hP hD hS => ?_)
        refine lv_aload_n hx hb dX12_stream_31 rfl (lv_at hl 0 rfl) ?_
        refine lv_dup hx hb dX12_stream_32 rfl ?_
        refine fg_4 hx hb hts hown hK hP dX12_stream_33 ?_
        refine lv_iconst (v := 1) hx hb dX12_stream_36 (by decide) ?_
        refine lv_iadd hx hb dX12_stream_37 ?_
        refine fp_4 hx hb hts hown hK hP hD hS dX12_stream_38 (fun H locs hP hD hS => ?_)
        refine lv_aload_n hx hb dX12_stream_41 rfl (lv_at hl 0 rfl) ?_
        refine fg_4 hx hb hts hown hK hP dX12_stream_42 ?_
        refine lv_iconst (v := 1) hx hb dX12_stream_45 (by decide) ?_
        refine lv_isub hx hb dX12_stream_46 ?_
        obtain ⟨e1, e2⟩ := Prod.mk.inj (Option.some.inj h)
        rw [e1] at hP hD
        exact W.iret (v := ((setF cs_4 4 ((cs_4.1 4) + 1)).1 4) - 1) hx hb hr (fun t_ ht hW => ⟨⟨((setF cs_4 4 ((cs_4.1 4) + 1)).1 4) - 1, (), rfl, e2, by rw [ht]; exact hP, hD⟩, hS.F ht⟩) hS.2.2 dX12_stream_47
      · skip
        replace h := (if_pos c_3).symm.trans h
        exact B_19 cs h _ _ _ hP hD hS (lv_sub hl [] rfl)
theorem dX12_draft_0 : decode cX12_draft 0 = .ok (.aload_n 0, 1) := by decide +kernel
theorem dX12_draft_1 : decode cX12_draft 1 = .ok (.getfield 268, 3) := by decide +kernel
theorem dX12_draft_4 : decode cX12_draft 4 = .ok (.iconst 4, 1) := by decide +kernel
theorem dX12_draft_5 : decode cX12_draft 5 = .ok (.if_icmp .ne 5, 3) := by decide +kernel
theorem dX12_draft_8 : decode cX12_draft 8 = .ok (.iconst (-1), 1) := by decide +kernel
theorem dX12_draft_9 : decode cX12_draft 9 = .ok (.ireturn, 1) := by decide +kernel
theorem dX12_draft_10 : decode cX12_draft 10 = .ok (.aload_n 0, 1) := by decide +kernel
theorem dX12_draft_11 : decode cX12_draft 11 = .ok (.getfield 34, 3) := by decide +kernel
theorem dX12_draft_14 : decode cX12_draft 14 = .ok (.aload_n 0, 1) := by decide +kernel
theorem dX12_draft_15 : decode cX12_draft 15 = .ok (.getfield 268, 3) := by decide +kernel
theorem dX12_draft_18 : decode cX12_draft 18 = .ok (.lload_n 1, 1) := by decide +kernel
theorem dX12_draft_19 : decode cX12_draft 19 = .ok (.lastore, 1) := by decide +kernel
theorem dX12_draft_20 : decode cX12_draft 20 = .ok (.aload_n 0, 1) := by decide +kernel
theorem dX12_draft_21 : decode cX12_draft 21 = .ok (.getfield 37, 3) := by decide +kernel
theorem dX12_draft_24 : decode cX12_draft 24 = .ok (.aload_n 0, 1) := by decide +kernel
theorem dX12_draft_25 : decode cX12_draft 25 = .ok (.getfield 268, 3) := by decide +kernel
theorem dX12_draft_28 : decode cX12_draft 28 = .ok (.iload_n 3, 1) := by decide +kernel
theorem dX12_draft_29 : decode cX12_draft 29 = .ok (.bastore, 1) := by decide +kernel
theorem dX12_draft_30 : decode cX12_draft 30 = .ok (.aload_n 0, 1) := by decide +kernel
theorem dX12_draft_31 : decode cX12_draft 31 = .ok (.dup, 1) := by decide +kernel
theorem dX12_draft_32 : decode cX12_draft 32 = .ok (.getfield 268, 3) := by decide +kernel
theorem dX12_draft_35 : decode cX12_draft 35 = .ok (.iconst 1, 1) := by decide +kernel
theorem dX12_draft_36 : decode cX12_draft 36 = .ok (.iadd, 1) := by decide +kernel
theorem dX12_draft_37 : decode cX12_draft 37 = .ok (.putfield 268, 3) := by decide +kernel
theorem dX12_draft_40 : decode cX12_draft 40 = .ok (.aload_n 0, 1) := by decide +kernel
theorem dX12_draft_41 : decode cX12_draft 41 = .ok (.getfield 268, 3) := by decide +kernel
theorem dX12_draft_44 : decode cX12_draft 44 = .ok (.ireturn, 1) := by decide +kernel
def m_draft (F : Nat) (cs : RS) (x1 : Int64) (x3 : Int32) : Option (RS × Int32) := if (cs.1 11) = 4 then (some (cs, (-1))) else (Option.bind (wrL cs 12 4 (cs.1 11) x1) fun cs_2 => Option.bind (wrI cs_2 13 4 (cs_2.1 11) (vp_nar .boolean x3)) fun cs_3 => some (setF cs_3 11 ((cs_3.1 11) + 1), (setF cs_3 11 ((cs_3.1 11) + 1)).1 11))
set_option maxHeartbeats 4000000 in
set_option maxRecDepth 100000 in
theorem s_draft (l : Launch) (dC : Nat → ClassId) (dI : Nat → Nat → Nat) (cB cI cJ cZ : ClassId) (h0 : Nat) (a : Nat → Nat) (K V : Nat → Nat) (fz : Value) (F : Nat) (cs : RS) (x1 : Int64) (x3 : Int32) (cs9 : RS) (r9 : Int32) (hf : m_draft F cs x1 x3 = some (cs9, r9)) : okI l dC dI cB cI cJ cZ h0 a K V fz yX12_draft (wsOf yX12_draft cX12_draft 4 (some .int)) (0) [.ref h0, .long x1, .int x3] cs cs9 r9 := by
  intro sz
  refine Met.ofW (cc := cX12_draft) (maxL := 4) (ret := (some .int)) (by decide) rfl ?_
  intro p e s m args below meth c s₁ B hml hv
  obtain ⟨rfl, hsz, hP, hK, hD0, hZ⟩ := hv
  have hx := B.exec
  have hb := B.bytes
  have hr := B.returns
  have hts := atoms_spec (ws := (wsOf yX12_draft cX12_draft 4 (some .int))) B.pre
  have hown : s.vm.findClass RX12 = some m.cls := findClass_of_methodNamed B.named
  have hlocks := B.notSynchronized
  subst hsz
  have hD := hD0.self (sz := s.heap.size)
  generalize hAe : va_A (mW cB cI cJ cZ h0 a cs) s.heap.size = A at hD hZ ⊢
  have hA : ∀ q : Nat, s.heap.size ≤ q → A q := fun q h => by rw [← hAe]; exact Or.inr h
  have hS : va_S A s.heap s.heap [] := va_S.rf
  have hl := lv_entry ([.ref h0, .long x1, .int x3]) (n := 4) (Nat.le_of_ble_eq_true rfl)
  rw [lg_entry_eq]
  generalize (lg_sl ([.ref h0, .long x1, .int x3]) ++ List.replicate (4 - (lg_sl ([.ref h0, .long x1, .int x3])).length) Slot.unset).toArray = ls at hl ⊢
  have hl : lv_has ls 4 [(0, .ref h0), (1, .long x1), (3, .int x3)] := hl
  have h := hf
  unfold m_draft at h
  refine lv_aload_n hx hb dX12_draft_0 rfl (lv_at hl 0 rfl) ?_
  refine fg_11 hx hb hts hown hK hP dX12_draft_1 ?_
  refine lv_iconst (v := 4) hx hb dX12_draft_4 (by decide) ?_
  refine lv_icmp_ne (tgt := 10) hx hb dX12_draft_5 (by decide) (fun c_1 => ?_) (fun c_1 => ?_)
  · skip
    replace h := (if_neg c_1).symm.trans h
    refine lv_aload_n hx hb dX12_draft_10 rfl (lv_at hl 0 rfl) ?_
    refine fg_12 hx hb hts hown hK hP dX12_draft_11 ?_
    refine lv_aload_n hx hb dX12_draft_14 rfl (lv_at hl 0 rfl) ?_
    refine fg_11 hx hb hts hown hK hP dX12_draft_15 ?_
    refine lv_lload_n hx hb dX12_draft_18 rfl (lv_at hl 1 rfl) ?_
    obtain ⟨cs_2, hv_2, h⟩ := ob h
    refine ap_12 hx hb hK hP hD hS hv_2 dX12_draft_19 (fun H locs hP hD hS => ?_)
    refine lv_aload_n hx hb dX12_draft_20 rfl (lv_at hl 0 rfl) ?_
    refine fg_13 hx hb hts hown hK hP dX12_draft_21 ?_
    refine lv_aload_n hx hb dX12_draft_24 rfl (lv_at hl 0 rfl) ?_
    refine fg_11 hx hb hts hown hK hP dX12_draft_25 ?_
    refine lv_iload_n hx hb dX12_draft_28 rfl (lv_at hl 2 rfl) ?_
    obtain ⟨cs_3, hv_3, h⟩ := ob h
    refine ap_13 hx hb hK hP hD hS hv_3 dX12_draft_29 (fun H locs hP hD hS => ?_)
    refine lv_aload_n hx hb dX12_draft_30 rfl (lv_at hl 0 rfl) ?_
    refine lv_dup hx hb dX12_draft_31 rfl ?_
    refine fg_11 hx hb hts hown hK hP dX12_draft_32 ?_
    refine lv_iconst (v := 1) hx hb dX12_draft_35 (by decide) ?_
    refine lv_iadd hx hb dX12_draft_36 ?_
    refine fp_11 hx hb hts hown hK hP hD hS dX12_draft_37 (fun H locs hP hD hS => ?_)
    refine lv_aload_n hx hb dX12_draft_40 rfl (lv_at hl 0 rfl) ?_
    refine fg_11 hx hb hts hown hK hP dX12_draft_41 ?_
    obtain ⟨e1, e2⟩ := Prod.mk.inj (Option.some.inj h)
    rw [e1] at hP hD
    exact W.iret (v := (setF cs_3 11 ((cs_3.1 11) + 1)).1 11) hx hb hr (fun t_ ht hW => ⟨⟨(setF cs_3 11 ((cs_3.1 11) + 1)).1 11, (), rfl, e2, by rw [ht]; exact hP, hD⟩, hS.F ht⟩) hS.2.2 dX12_draft_44
  · skip
    replace h := (if_pos c_1).symm.trans h
    refine lv_iconst (v := (-1)) hx hb dX12_draft_8 (by decide) ?_
    obtain ⟨e1, e2⟩ := Prod.mk.inj (Option.some.inj h)
    rw [e1] at hP hD
    exact W.iret (v := (-1)) hx hb hr (fun t_ ht hW => ⟨⟨(-1), (), rfl, e2, by rw [ht]; exact hP, hD⟩, hS.F ht⟩) hS.2.2 dX12_draft_9
theorem cw_draft {R : Room} {s : State} {args : Array Value} {y0 : MethodName} {c0 : ByteArray} {n0 : Nat} {r0 : Option FieldType} (hts : ∀ w ∈ wsOf y0 c0 n0 r0, w.before args s = true) {fr : Nat} (h1 : fr + 1 ≤ R.frames) (h2 : 8 + (4 + 11) + 60 * fr ≤ R.locals) : CallW R s args RX12 RX12 264 yX12_draft cX12_draft 4 (some .int) (wsOf yX12_draft cX12_draft 4 (some .int)) ({ frames := fr, cells := 0, slots := 0, locals := 60 * fr } : Room) 0 0 2 := cwV 2 hts (gd_all (in_V kw_2061 kw_2063 kw_98 kw_191 kc_X12_draft)) rfl rfl rfl (by decide +kernel) ⟨h1, h2⟩
theorem dX12_value_0 : decode cX12_value 0 = .ok (.aload_n 0, 1) := by decide +kernel
theorem dX12_value_1 : decode cX12_value 1 = .ok (.lload_n 1, 1) := by decide +kernel
theorem dX12_value_2 : decode cX12_value 2 = .ok (.iconst 0, 1) := by decide +kernel
theorem dX12_value_3 : decode cX12_value 3 = .ok (.invokevirtual 264, 3) := by decide +kernel
theorem dX12_value_6 : decode cX12_value 6 = .ok (.ireturn, 1) := by decide +kernel
def m_value (F : Nat) (cs : RS) (x1 : Int64) : Option (RS × Int32) := Option.bind (m_draft F cs x1 0) fun z_1 => some (z_1.1, z_1.2)
set_option maxHeartbeats 4000000 in
set_option maxRecDepth 100000 in
theorem s_value (l : Launch) (dC : Nat → ClassId) (dI : Nat → Nat → Nat) (cB cI cJ cZ : ClassId) (h0 : Nat) (a : Nat → Nat) (K V : Nat → Nat) (fz : Value) (F : Nat) (cs : RS) (x1 : Int64) (cs9 : RS) (r9 : Int32) (hf : m_value F cs x1 = some (cs9, r9)) : okI l dC dI cB cI cJ cZ h0 a K V fz yX12_value (wsOf yX12_value cX12_value 3 (some .int)) (1) [.ref h0, .long x1] cs cs9 r9 := by
  intro sz
  refine Met.ofW (cc := cX12_value) (maxL := 3) (ret := (some .int)) (by decide) rfl ?_
  intro p e s m args below meth c s₁ B hml hv
  obtain ⟨rfl, hsz, hP, hK, hD0, hZ⟩ := hv
  have hx := B.exec
  have hb := B.bytes
  have hr := B.returns
  have hts := atoms_spec (ws := (wsOf yX12_value cX12_value 3 (some .int))) B.pre
  have hown : s.vm.findClass RX12 = some m.cls := findClass_of_methodNamed B.named
  have hlocks := B.notSynchronized
  subst hsz
  have hD := hD0.self (sz := s.heap.size)
  generalize hAe : va_A (mW cB cI cJ cZ h0 a cs) s.heap.size = A at hD hZ ⊢
  have hA : ∀ q : Nat, s.heap.size ≤ q → A q := fun q h => by rw [← hAe]; exact Or.inr h
  have hS : va_S A s.heap s.heap [] := va_S.rf
  have hl := lv_entry ([.ref h0, .long x1]) (n := 3) (Nat.le_of_ble_eq_true rfl)
  rw [lg_entry_eq]
  generalize (lg_sl ([.ref h0, .long x1]) ++ List.replicate (3 - (lg_sl ([.ref h0, .long x1])).length) Slot.unset).toArray = ls at hl ⊢
  have hl : lv_has ls 3 [(0, .ref h0), (1, .long x1)] := hl
  have h := hf
  unfold m_value at h
  refine lv_aload_n hx hb dX12_value_0 rfl (lv_at hl 0 rfl) ?_
  refine lv_lload_n hx hb dX12_value_1 rfl (lv_at hl 1 rfl) ?_
  refine lv_iconst (v := 0) hx hb dX12_value_2 (by decide) ?_
  obtain ⟨z_1, hv_1, h⟩ := ob h
  refine calI (As := [.long x1, .int 0]) hx hb hml hts hown hK hP hD hS hA hZ (s_draft l dC dI cB cI cJ cZ h0 a K V fz F cs x1 0 z_1.1 z_1.2 hv_1) (cw_draft hts (fr := 0) (Nat.le_of_ble_eq_true rfl) (Nat.le_of_ble_eq_true rfl)) rfl hl.1 (Nat.le_of_ble_eq_true rfl) ⟨Nat.zero_le _, Nat.zero_le _⟩ dX12_value_3 (fun H locs hP hD hS => ?_)
  obtain ⟨e1, e2⟩ := Prod.mk.inj (Option.some.inj h)
  rw [e1] at hP hD
  exact W.iret (v := z_1.2) hx hb hr (fun t_ ht hW => ⟨⟨z_1.2, (), rfl, e2, by rw [ht]; exact hP, hD⟩, hS.F ht⟩) hS.2.2 dX12_value_6
theorem dX12_nothing_0 : decode cX12_nothing 0 = .ok (.aload_n 0, 1) := by decide +kernel
theorem dX12_nothing_1 : decode cX12_nothing 1 = .ok (.lconst 0, 1) := by decide +kernel
theorem dX12_nothing_2 : decode cX12_nothing 2 = .ok (.iconst 1, 1) := by decide +kernel
theorem dX12_nothing_3 : decode cX12_nothing 3 = .ok (.invokevirtual 264, 3) := by decide +kernel
theorem dX12_nothing_6 : decode cX12_nothing 6 = .ok (.ireturn, 1) := by decide +kernel
def m_nothing (F : Nat) (cs : RS) : Option (RS × Int32) := Option.bind (m_draft F cs 0 1) fun z_1 => some (z_1.1, z_1.2)
set_option maxHeartbeats 4000000 in
set_option maxRecDepth 100000 in
theorem s_nothing (l : Launch) (dC : Nat → ClassId) (dI : Nat → Nat → Nat) (cB cI cJ cZ : ClassId) (h0 : Nat) (a : Nat → Nat) (K V : Nat → Nat) (fz : Value) (F : Nat) (cs : RS) (cs9 : RS) (r9 : Int32) (hf : m_nothing F cs = some (cs9, r9)) : okI l dC dI cB cI cJ cZ h0 a K V fz yX12_nothing (wsOf yX12_nothing cX12_nothing 1 (some .int)) (1) [.ref h0] cs cs9 r9 := by
  intro sz
  refine Met.ofW (cc := cX12_nothing) (maxL := 1) (ret := (some .int)) (by decide) rfl ?_
  intro p e s m args below meth c s₁ B hml hv
  obtain ⟨rfl, hsz, hP, hK, hD0, hZ⟩ := hv
  have hx := B.exec
  have hb := B.bytes
  have hr := B.returns
  have hts := atoms_spec (ws := (wsOf yX12_nothing cX12_nothing 1 (some .int))) B.pre
  have hown : s.vm.findClass RX12 = some m.cls := findClass_of_methodNamed B.named
  have hlocks := B.notSynchronized
  subst hsz
  have hD := hD0.self (sz := s.heap.size)
  generalize hAe : va_A (mW cB cI cJ cZ h0 a cs) s.heap.size = A at hD hZ ⊢
  have hA : ∀ q : Nat, s.heap.size ≤ q → A q := fun q h => by rw [← hAe]; exact Or.inr h
  have hS : va_S A s.heap s.heap [] := va_S.rf
  have hl := lv_entry ([.ref h0]) (n := 1) (Nat.le_of_ble_eq_true rfl)
  rw [lg_entry_eq]
  generalize (lg_sl ([.ref h0]) ++ List.replicate (1 - (lg_sl ([.ref h0])).length) Slot.unset).toArray = ls at hl ⊢
  have hl : lv_has ls 1 [(0, .ref h0)] := hl
  have h := hf
  unfold m_nothing at h
  refine lv_aload_n hx hb dX12_nothing_0 rfl (lv_at hl 0 rfl) ?_
  refine lv_lconst (v := 0) hx hb dX12_nothing_1 (by decide) ?_
  refine lv_iconst (v := 1) hx hb dX12_nothing_2 (by decide) ?_
  obtain ⟨z_1, hv_1, h⟩ := ob h
  refine calI (As := [.long 0, .int 1]) hx hb hml hts hown hK hP hD hS hA hZ (s_draft l dC dI cB cI cJ cZ h0 a K V fz F cs 0 1 z_1.1 z_1.2 hv_1) (cw_draft hts (fr := 0) (Nat.le_of_ble_eq_true rfl) (Nat.le_of_ble_eq_true rfl)) rfl hl.1 (Nat.le_of_ble_eq_true rfl) ⟨Nat.zero_le _, Nat.zero_le _⟩ dX12_nothing_3 (fun H locs hP hD hS => ?_)
  obtain ⟨e1, e2⟩ := Prod.mk.inj (Option.some.inj h)
  rw [e1] at hP hD
  exact W.iret (v := z_1.2) hx hb hr (fun t_ ht hW => ⟨⟨z_1.2, (), rfl, e2, by rw [ht]; exact hP, hD⟩, hS.F ht⟩) hS.2.2 dX12_nothing_6
theorem dX12_relation_0 : decode cX12_relation 0 = .ok (.aload_n 0, 1) := by decide +kernel
theorem dX12_relation_1 : decode cX12_relation 1 = .ok (.getfield 590, 3) := by decide +kernel
theorem dX12_relation_4 : decode cX12_relation 4 = .ok (.istore_n 2, 1) := by decide +kernel
theorem dX12_relation_5 : decode cX12_relation 5 = .ok (.aload_n 0, 1) := by decide +kernel
theorem dX12_relation_6 : decode cX12_relation 6 = .ok (.dup, 1) := by decide +kernel
theorem dX12_relation_7 : decode cX12_relation 7 = .ok (.getfield 590, 3) := by decide +kernel
theorem dX12_relation_10 : decode cX12_relation 10 = .ok (.iconst 1, 1) := by decide +kernel
theorem dX12_relation_11 : decode cX12_relation 11 = .ok (.iadd, 1) := by decide +kernel
theorem dX12_relation_12 : decode cX12_relation 12 = .ok (.putfield 590, 3) := by decide +kernel
theorem dX12_relation_15 : decode cX12_relation 15 = .ok (.aload_n 0, 1) := by decide +kernel
theorem dX12_relation_16 : decode cX12_relation 16 = .ok (.getfield 200, 3) := by decide +kernel
theorem dX12_relation_19 : decode cX12_relation 19 = .ok (.iload_n 2, 1) := by decide +kernel
theorem dX12_relation_20 : decode cX12_relation 20 = .ok (.aload_n 0, 1) := by decide +kernel
theorem dX12_relation_21 : decode cX12_relation 21 = .ok (.getfield 593, 3) := by decide +kernel
theorem dX12_relation_24 : decode cX12_relation 24 = .ok (.iastore, 1) := by decide +kernel
theorem dX12_relation_25 : decode cX12_relation 25 = .ok (.aload_n 0, 1) := by decide +kernel
theorem dX12_relation_26 : decode cX12_relation 26 = .ok (.getfield 203, 3) := by decide +kernel
theorem dX12_relation_29 : decode cX12_relation 29 = .ok (.iload_n 2, 1) := by decide +kernel
theorem dX12_relation_30 : decode cX12_relation 30 = .ok (.iconst 0, 1) := by decide +kernel
theorem dX12_relation_31 : decode cX12_relation 31 = .ok (.iastore, 1) := by decide +kernel
theorem dX12_relation_32 : decode cX12_relation 32 = .ok (.aload_n 0, 1) := by decide +kernel
theorem dX12_relation_33 : decode cX12_relation 33 = .ok (.getfield 206, 3) := by decide +kernel
theorem dX12_relation_36 : decode cX12_relation 36 = .ok (.iload_n 2, 1) := by decide +kernel
theorem dX12_relation_37 : decode cX12_relation 37 = .ok (.iload_n 1, 1) := by decide +kernel
theorem dX12_relation_38 : decode cX12_relation 38 = .ok (.iastore, 1) := by decide +kernel
theorem dX12_relation_39 : decode cX12_relation 39 = .ok (.iload_n 2, 1) := by decide +kernel
theorem dX12_relation_40 : decode cX12_relation 40 = .ok (.ireturn, 1) := by decide +kernel
def m_relation (F : Nat) (cs : RS) (x1 : Int32) : Option (RS × Int32) := Option.bind (wrI (setF cs 91 ((cs.1 91) + 1)) 88 400 (cs.1 91) ((setF cs 91 ((cs.1 91) + 1)).1 87)) fun cs_1 => Option.bind (wrI cs_1 89 400 (cs.1 91) 0) fun cs_2 => Option.bind (wrI cs_2 90 400 (cs.1 91) x1) fun cs_3 => some (cs_3, cs.1 91)
set_option maxHeartbeats 4000000 in
set_option maxRecDepth 100000 in
theorem s_relation (l : Launch) (dC : Nat → ClassId) (dI : Nat → Nat → Nat) (cB cI cJ cZ : ClassId) (h0 : Nat) (a : Nat → Nat) (K V : Nat → Nat) (fz : Value) (F : Nat) (cs : RS) (x1 : Int32) (cs9 : RS) (r9 : Int32) (hf : m_relation F cs x1 = some (cs9, r9)) : okI l dC dI cB cI cJ cZ h0 a K V fz yX12_relation (wsOf yX12_relation cX12_relation 3 (some .int)) (0) [.ref h0, .int x1] cs cs9 r9 := by
  intro sz
  refine Met.ofW (cc := cX12_relation) (maxL := 3) (ret := (some .int)) (by decide) rfl ?_
  intro p e s m args below meth c s₁ B hml hv
  obtain ⟨rfl, hsz, hP, hK, hD0, hZ⟩ := hv
  have hx := B.exec
  have hb := B.bytes
  have hr := B.returns
  have hts := atoms_spec (ws := (wsOf yX12_relation cX12_relation 3 (some .int))) B.pre
  have hown : s.vm.findClass RX12 = some m.cls := findClass_of_methodNamed B.named
  have hlocks := B.notSynchronized
  subst hsz
  have hD := hD0.self (sz := s.heap.size)
  generalize hAe : va_A (mW cB cI cJ cZ h0 a cs) s.heap.size = A at hD hZ ⊢
  have hA : ∀ q : Nat, s.heap.size ≤ q → A q := fun q h => by rw [← hAe]; exact Or.inr h
  have hS : va_S A s.heap s.heap [] := va_S.rf
  have hl := lv_entry ([.ref h0, .int x1]) (n := 3) (Nat.le_of_ble_eq_true rfl)
  rw [lg_entry_eq]
  generalize (lg_sl ([.ref h0, .int x1]) ++ List.replicate (3 - (lg_sl ([.ref h0, .int x1])).length) Slot.unset).toArray = ls at hl ⊢
  have hl : lv_has ls 3 [(0, .ref h0), (1, .int x1)] := hl
  have h := hf
  unfold m_relation at h
  refine lv_aload_n hx hb dX12_relation_0 rfl (lv_at hl 0 rfl) ?_
  refine fg_91 hx hb hts hown hK hP dX12_relation_1 ?_
  refine lv_istore_n (lv' := [(2, .int (cs.1 91)), (0, .ref h0), (1, .int x1)]) hx hb dX12_relation_4 rfl hl (by decide) rfl (fun ls hl => ?_)
  refine lv_aload_n hx hb dX12_relation_5 rfl (lv_at hl 1 rfl) ?_
  refine lv_dup hx hb dX12_relation_6 rfl ?_
  refine fg_91 hx hb hts hown hK hP dX12_relation_7 ?_
  refine lv_iconst (v := 1) hx hb dX12_relation_10 (by decide) ?_
  refine lv_iadd hx hb dX12_relation_11 ?_
  refine fp_91 hx hb hts hown hK hP hD hS dX12_relation_12 (fun H locs hP hD hS => ?_)
  refine lv_aload_n hx hb dX12_relation_15 rfl (lv_at hl 1 rfl) ?_
  refine fg_88 hx hb hts hown hK hP dX12_relation_16 ?_
  refine lv_iload_n hx hb dX12_relation_19 rfl (lv_at hl 0 rfl) ?_
  refine lv_aload_n hx hb dX12_relation_20 rfl (lv_at hl 1 rfl) ?_
  refine fg_87 hx hb hts hown hK hP dX12_relation_21 ?_
  obtain ⟨cs_1, hv_1, h⟩ := ob h
  refine ap_88 hx hb hK hP hD hS hv_1 dX12_relation_24 (fun H locs hP hD hS => ?_)
  refine lv_aload_n hx hb dX12_relation_25 rfl (lv_at hl 1 rfl) ?_
  refine fg_89 hx hb hts hown hK hP dX12_relation_26 ?_
  refine lv_iload_n hx hb dX12_relation_29 rfl (lv_at hl 0 rfl) ?_
  refine lv_iconst (v := 0) hx hb dX12_relation_30 (by decide) ?_
  obtain ⟨cs_2, hv_2, h⟩ := ob h
  refine ap_89 hx hb hK hP hD hS hv_2 dX12_relation_31 (fun H locs hP hD hS => ?_)
  refine lv_aload_n hx hb dX12_relation_32 rfl (lv_at hl 1 rfl) ?_
  refine fg_90 hx hb hts hown hK hP dX12_relation_33 ?_
  refine lv_iload_n hx hb dX12_relation_36 rfl (lv_at hl 0 rfl) ?_
  refine lv_iload_n hx hb dX12_relation_37 rfl (lv_at hl 2 rfl) ?_
  obtain ⟨cs_3, hv_3, h⟩ := ob h
  refine ap_90 hx hb hK hP hD hS hv_3 dX12_relation_38 (fun H locs hP hD hS => ?_)
  refine lv_iload_n hx hb dX12_relation_39 rfl (lv_at hl 0 rfl) ?_
  obtain ⟨e1, e2⟩ := Prod.mk.inj (Option.some.inj h)
  rw [e1] at hP hD
  exact W.iret (v := cs.1 91) hx hb hr (fun t_ ht hW => ⟨⟨cs.1 91, (), rfl, e2, by rw [ht]; exact hP, hD⟩, hS.F ht⟩) hS.2.2 dX12_relation_40
theorem cw_relation {R : Room} {s : State} {args : Array Value} {y0 : MethodName} {c0 : ByteArray} {n0 : Nat} {r0 : Option FieldType} (hts : ∀ w ∈ wsOf y0 c0 n0 r0, w.before args s = true) {fr : Nat} (h1 : fr + 1 ≤ R.frames) (h2 : 8 + (3 + 11) + 60 * fr ≤ R.locals) : CallW R s args RX12 RX12 662 yX12_relation cX12_relation 3 (some .int) (wsOf yX12_relation cX12_relation 3 (some .int)) ({ frames := fr, cells := 0, slots := 0, locals := 60 * fr } : Room) 0 0 1 := cwV 1 hts (gd_all (in_V kw_2089 kw_2091 kw_103 kw_191 kc_X12_relation)) rfl rfl rfl (by decide +kernel) ⟨h1, h2⟩
theorem dX12_since_0 : decode cX12_since 0 = .ok (.aload_n 0, 1) := by decide +kernel
theorem dX12_since_1 : decode cX12_since 1 = .ok (.getfield 133, 3) := by decide +kernel
theorem dX12_since_4 : decode cX12_since 4 = .ok (.iload_n 1, 1) := by decide +kernel
theorem dX12_since_5 : decode cX12_since 5 = .ok (.baload, 1) := by decide +kernel
theorem dX12_since_6 : decode cX12_since 6 = .ok (.ifCond .ne 7, 3) := by decide +kernel
theorem dX12_since_9 : decode cX12_since 9 = .ok (.ldc2_w 247, 3) := by decide +kernel
theorem dX12_since_12 : decode cX12_since 12 = .ok (.lreturn, 1) := by decide +kernel
theorem dX12_since_13 : decode cX12_since 13 = .ok (.aload_n 0, 1) := by decide +kernel
theorem dX12_since_14 : decode cX12_since 14 = .ok (.getfield 249, 3) := by decide +kernel
theorem dX12_since_17 : decode cX12_since 17 = .ok (.aload_n 0, 1) := by decide +kernel
theorem dX12_since_18 : decode cX12_since 18 = .ok (.getfield 136, 3) := by decide +kernel
theorem dX12_since_21 : decode cX12_since 21 = .ok (.iload_n 1, 1) := by decide +kernel
theorem dX12_since_22 : decode cX12_since 22 = .ok (.laload, 1) := by decide +kernel
theorem dX12_since_23 : decode cX12_since 23 = .ok (.lsub, 1) := by decide +kernel
theorem dX12_since_24 : decode cX12_since 24 = .ok (.lstore_n 2, 1) := by decide +kernel
theorem dX12_since_25 : decode cX12_since 25 = .ok (.lload_n 2, 1) := by decide +kernel
theorem dX12_since_26 : decode cX12_since 26 = .ok (.aload_n 0, 1) := by decide +kernel
theorem dX12_since_27 : decode cX12_since 27 = .ok (.getfield 249, 3) := by decide +kernel
theorem dX12_since_30 : decode cX12_since 30 = .ok (.lcmp, 1) := by decide +kernel
theorem dX12_since_31 : decode cX12_since 31 = .ok (.ifCond .le 9, 3) := by decide +kernel
theorem dX12_since_34 : decode cX12_since 34 = .ok (.ldc2_w 247, 3) := by decide +kernel
theorem dX12_since_37 : decode cX12_since 37 = .ok (.goto 4, 3) := by decide +kernel
theorem dX12_since_40 : decode cX12_since 40 = .ok (.lload_n 2, 1) := by decide +kernel
theorem dX12_since_41 : decode cX12_since 41 = .ok (.lreturn, 1) := by decide +kernel
def m_since_b41 (F : Nat) (cs : RS) (y0 : Int64) : Option Int64 := some y0
def m_since (F : Nat) (cs : RS) (x1 : Int32) : Option Int64 := Option.bind (rdI (cs.2.2.1 51) 180 x1) fun v_1 => if v_1 = 0 then (some (-9223372036854775808)) else (Option.bind (rdL (cs.2.2.2 52) 180 x1) fun v_3 => if (cs.2.1 - v_3) ≤ cs.2.1 then (m_since_b41 F cs (cs.2.1 - v_3)) else (m_since_b41 F cs (-9223372036854775808)))
set_option maxHeartbeats 4000000 in
set_option maxRecDepth 100000 in
theorem s_since (l : Launch) (dC : Nat → ClassId) (dI : Nat → Nat → Nat) (cB cI cJ cZ : ClassId) (h0 : Nat) (a : Nat → Nat) (K V : Nat → Nat) (fz : Value) (F : Nat) (cs : RS) (x1 : Int32) (r9 : Int64) (hf : m_since F cs x1 = some r9) : okL l dC dI cB cI cJ cZ h0 a K V fz yX12_since (wsOf yX12_since cX12_since 4 (some .long)) (0) [.ref h0, .int x1] cs cs r9 := by
  intro sz
  refine Met.ofW (cc := cX12_since) (maxL := 4) (ret := (some .long)) (by decide) rfl ?_
  intro p e s m args below meth c s₁ B hml hv
  obtain ⟨rfl, hsz, hP, hK, hD0, hZ⟩ := hv
  have hx := B.exec
  have hb := B.bytes
  have hr := B.returns
  have hts := atoms_spec (ws := (wsOf yX12_since cX12_since 4 (some .long))) B.pre
  have hown : s.vm.findClass RX12 = some m.cls := findClass_of_methodNamed B.named
  have hlocks := B.notSynchronized
  subst hsz
  have hD := hD0.self (sz := s.heap.size)
  generalize hAe : va_A (mW cB cI cJ cZ h0 a cs) s.heap.size = A at hD hZ ⊢
  have hA : ∀ q : Nat, s.heap.size ≤ q → A q := fun q h => by rw [← hAe]; exact Or.inr h
  have hS : va_S A s.heap s.heap [] := va_S.rf
  have hl := lv_entry ([.ref h0, .int x1]) (n := 4) (Nat.le_of_ble_eq_true rfl)
  rw [lg_entry_eq]
  generalize (lg_sl ([.ref h0, .int x1]) ++ List.replicate (4 - (lg_sl ([.ref h0, .int x1])).length) Slot.unset).toArray = ls at hl ⊢
  have hl : lv_has ls 4 [(0, .ref h0), (1, .int x1)] := hl
  have B_41 : ∀ (y0 : Int64), m_since_b41 F cs y0 = some r9 → ∀ (H : Heap) (locs : List Loc) (ls : Array Slot), va_P (dC, dI) vwCl (mW cB cI cJ cZ h0 a cs) H → va_D A (mW cB cI cJ cZ h0 a cs) → va_S A s.heap H locs → lv_has ls 4 [] → W p l e (headSpec (wsOf yX12_since cX12_since 4 (some .long)) ({ frames := 0, cells := 0, slots := 0, locals := 60 * (0) } : Room)).room s m ([.ref h0, .int x1] : List Value).toArray below meth c H locs 0 0 (MQ below (va_Ql (fun (x : Int64) (_ : Unit) => x = r9) (fun _ t_ => va_P (dC, dI) vwCl (mW cB cI cJ cZ h0 a cs) t_.heap ∧ va_D A (mW cB cI cJ cZ h0 a cs)) A) ([.ref h0, .int x1] : List Value).toArray s 0 0 A) (F0 m 41 ls [.long y0]) := by
    intro y0 h H locs ls hP hD hS hl
    unfold m_since_b41 at h
    have e2 := Option.some.inj h
    exact W.lret (v := y0) hx hb hr (fun t_ ht hW => ⟨⟨y0, (), rfl, e2, by rw [ht]; exact hP, hD⟩, hS.F ht⟩) hS.2.2 dX12_since_41
  have h := hf
  unfold m_since at h
  refine lv_aload_n hx hb dX12_since_0 rfl (lv_at hl 0 rfl) ?_
  refine fg_51 hx hb hts hown hK hP dX12_since_1 ?_
  refine lv_iload_n hx hb dX12_since_4 rfl (lv_at hl 1 rfl) ?_
  obtain ⟨v_1, hv_1, h⟩ := ob h
  refine ag_51 hx hb hK hP hv_1 dX12_since_5 ?_
  refine lv_if_ne (tgt := 13) hx hb dX12_since_6 (by decide) (fun c_2 => ?_) (fun c_2 => ?_)
  · skip
    replace h := (if_neg c_2).symm.trans h
    refine lv_aload_n hx hb dX12_since_13 rfl (lv_at hl 0 rfl) ?_
    refine fg_10 hx hb hts hown hK hP dX12_since_14 ?_
    refine lv_aload_n hx hb dX12_since_17 rfl (lv_at hl 0 rfl) ?_
    refine fg_52 hx hb hts hown hK hP dX12_since_18 ?_
    refine lv_iload_n hx hb dX12_since_21 rfl (lv_at hl 1 rfl) ?_
    obtain ⟨v_3, hv_3, h⟩ := ob h
    refine ag_52 hx hb hK hP hv_3 dX12_since_22 ?_
    refine lv_lsub hx hb dX12_since_23 ?_
    refine lv_lstore_n (lv' := [(2, .long (cs.2.1 - v_3)), (0, .ref h0), (1, .int x1)]) hx hb dX12_since_24 rfl hl (by decide) rfl (fun ls hl => ?_)
    refine lv_lload_n hx hb dX12_since_25 rfl (lv_at hl 0 rfl) ?_
    refine lv_aload_n hx hb dX12_since_26 rfl (lv_at hl 1 rfl) ?_
    refine fg_10 hx hb hts hown hK hP dX12_since_27 ?_
    refine W.lcmp hx hb dX12_since_30 ?_
    refine lv_if_le (tgt := 40) hx hb dX12_since_31 (by decide) (fun c_4 => ?_) (fun c_4 => ?_)
    · skip
      have c_4 : (cs.2.1 - v_3) ≤ cs.2.1 := (lg_cmp_le _ _).mp c_4
      replace h := (if_pos c_4).symm.trans h
      refine lv_lload_n hx hb dX12_since_40 rfl (lv_at hl 0 rfl) ?_
      exact B_41 (cs.2.1 - v_3) h _ _ _ hP hD hS (lv_sub hl [] rfl)
    · skip
      have c_4 : ¬ ((cs.2.1 - v_3) ≤ cs.2.1) := fun h9 => c_4 ((lg_cmp_le _ _).mpr h9)
      replace h := (if_neg c_4).symm.trans h
      refine lv_ldc2 hx hb hown (hts _ (List.mem_cons_of_mem _ kw_1693)) dX12_since_34 ?_
      refine lv_goto (tgt := 41) hx hb dX12_since_37 (by decide) ?_
      exact B_41 (-9223372036854775808) h _ _ _ hP hD hS (lv_sub hl [] rfl)
  · skip
    replace h := (if_pos c_2).symm.trans h
    refine lv_ldc2 hx hb hown (hts _ (List.mem_cons_of_mem _ kw_1693)) dX12_since_9 ?_
    have e2 := Option.some.inj h
    exact W.lret (v := (-9223372036854775808)) hx hb hr (fun t_ ht hW => ⟨⟨(-9223372036854775808), (), rfl, e2, by rw [ht]; exact hP, hD⟩, hS.F ht⟩) hS.2.2 dX12_since_12
theorem cw_since {R : Room} {s : State} {args : Array Value} {y0 : MethodName} {c0 : ByteArray} {n0 : Nat} {r0 : Option FieldType} (hts : ∀ w ∈ wsOf y0 c0 n0 r0, w.before args s = true) {fr : Nat} (h1 : fr + 1 ≤ R.frames) (h2 : 8 + (4 + 11) + 60 * fr ≤ R.locals) : CallW R s args RX12 RX12 656 yX12_since cX12_since 4 (some .long) (wsOf yX12_since cX12_since 4 (some .long)) ({ frames := fr, cells := 0, slots := 0, locals := 60 * fr } : Room) 0 0 1 := cwV 1 hts (gd_all (in_V kw_2097 kw_2099 kw_105 kw_191 kc_X12_since)) rfl rfl rfl (by decide +kernel) ⟨h1, h2⟩
theorem dX12_isIn_0 : decode cX12_isIn 0 = .ok (.aload_n 0, 1) := by decide +kernel
theorem dX12_isIn_1 : decode cX12_isIn 1 = .ok (.getfield 20, 3) := by decide +kernel
theorem dX12_isIn_4 : decode cX12_isIn 4 = .ok (.iload_n 2, 1) := by decide +kernel
theorem dX12_isIn_5 : decode cX12_isIn 5 = .ok (.baload, 1) := by decide +kernel
theorem dX12_isIn_6 : decode cX12_isIn 6 = .ok (.ifCond .eq 31, 3) := by decide +kernel
theorem dX12_isIn_9 : decode cX12_isIn 9 = .ok (.aload_n 0, 1) := by decide +kernel
theorem dX12_isIn_10 : decode cX12_isIn 10 = .ok (.getfield 133, 3) := by decide +kernel
theorem dX12_isIn_13 : decode cX12_isIn 13 = .ok (.iload_n 1, 1) := by decide +kernel
theorem dX12_isIn_14 : decode cX12_isIn 14 = .ok (.baload, 1) := by decide +kernel
theorem dX12_isIn_15 : decode cX12_isIn 15 = .ok (.ifCond .eq 18, 3) := by decide +kernel
theorem dX12_isIn_18 : decode cX12_isIn 18 = .ok (.aload_n 0, 1) := by decide +kernel
theorem dX12_isIn_19 : decode cX12_isIn 19 = .ok (.getfield 24, 3) := by decide +kernel
theorem dX12_isIn_22 : decode cX12_isIn 22 = .ok (.iload_n 2, 1) := by decide +kernel
theorem dX12_isIn_23 : decode cX12_isIn 23 = .ok (.laload, 1) := by decide +kernel
theorem dX12_isIn_24 : decode cX12_isIn 24 = .ok (.aload_n 0, 1) := by decide +kernel
theorem dX12_isIn_25 : decode cX12_isIn 25 = .ok (.iload_n 1, 1) := by decide +kernel
theorem dX12_isIn_26 : decode cX12_isIn 26 = .ok (.invokevirtual 656, 3) := by decide +kernel
theorem dX12_isIn_29 : decode cX12_isIn 29 = .ok (.lcmp, 1) := by decide +kernel
theorem dX12_isIn_30 : decode cX12_isIn 30 = .ok (.ifCond .lt 7, 3) := by decide +kernel
theorem dX12_isIn_33 : decode cX12_isIn 33 = .ok (.iconst 1, 1) := by decide +kernel
theorem dX12_isIn_34 : decode cX12_isIn 34 = .ok (.goto 4, 3) := by decide +kernel
theorem dX12_isIn_37 : decode cX12_isIn 37 = .ok (.iconst 0, 1) := by decide +kernel
theorem dX12_isIn_38 : decode cX12_isIn 38 = .ok (.ireturn, 1) := by decide +kernel
def m_isIn_b38 (F : Nat) (cs : RS) (y0 : Int32) : Option Int32 := Option.bind (ckZ y0) fun _ => some y0
def m_isIn_b33 (F : Nat) (cs : RS) : Option Int32 := m_isIn_b38 F cs 1
def m_isIn_b37 (F : Nat) (cs : RS) : Option Int32 := m_isIn_b38 F cs 0
def m_isIn (F : Nat) (cs : RS) (x1 : Int32) (x2 : Int32) : Option Int32 := Option.bind (rdI (cs.2.2.1 6) 48 x2) fun v_2 => if v_2 = 0 then (m_isIn_b37 F cs ) else (Option.bind (rdI (cs.2.2.1 51) 180 x1) fun v_4 => if v_4 = 0 then (m_isIn_b33 F cs ) else (Option.bind (rdL (cs.2.2.2 7) 48 x2) fun v_6 => Option.bind (m_since F cs x1) fun v_7 => if v_6 < v_7 then (m_isIn_b37 F cs ) else (m_isIn_b33 F cs )))
set_option maxHeartbeats 4000000 in
set_option maxRecDepth 100000 in
theorem s_isIn (l : Launch) (dC : Nat → ClassId) (dI : Nat → Nat → Nat) (cB cI cJ cZ : ClassId) (h0 : Nat) (a : Nat → Nat) (K V : Nat → Nat) (fz : Value) (F : Nat) (cs : RS) (x1 : Int32) (x2 : Int32) (r9 : Int32) (hf : m_isIn F cs x1 x2 = some r9) : okI l dC dI cB cI cJ cZ h0 a K V fz yX12_isIn (wsOf yX12_isIn cX12_isIn 3 (some .boolean)) (1) [.ref h0, .int x1, .int x2] cs cs r9 := by
  intro sz
  refine Met.ofW (cc := cX12_isIn) (maxL := 3) (ret := (some .boolean)) (by decide) rfl ?_
  intro p e s m args below meth c s₁ B hml hv
  obtain ⟨rfl, hsz, hP, hK, hD0, hZ⟩ := hv
  have hx := B.exec
  have hb := B.bytes
  have hr := B.returns
  have hts := atoms_spec (ws := (wsOf yX12_isIn cX12_isIn 3 (some .boolean))) B.pre
  have hown : s.vm.findClass RX12 = some m.cls := findClass_of_methodNamed B.named
  have hlocks := B.notSynchronized
  subst hsz
  have hD := hD0.self (sz := s.heap.size)
  generalize hAe : va_A (mW cB cI cJ cZ h0 a cs) s.heap.size = A at hD hZ ⊢
  have hA : ∀ q : Nat, s.heap.size ≤ q → A q := fun q h => by rw [← hAe]; exact Or.inr h
  have hS : va_S A s.heap s.heap [] := va_S.rf
  have hl := lv_entry ([.ref h0, .int x1, .int x2]) (n := 3) (Nat.le_of_ble_eq_true rfl)
  rw [lg_entry_eq]
  generalize (lg_sl ([.ref h0, .int x1, .int x2]) ++ List.replicate (3 - (lg_sl ([.ref h0, .int x1, .int x2])).length) Slot.unset).toArray = ls at hl ⊢
  have hl : lv_has ls 3 [(0, .ref h0), (1, .int x1), (2, .int x2)] := hl
  have B_38 : ∀ (y0 : Int32), m_isIn_b38 F cs y0 = some r9 → ∀ (H : Heap) (locs : List Loc) (ls : Array Slot), va_P (dC, dI) vwCl (mW cB cI cJ cZ h0 a cs) H → va_D A (mW cB cI cJ cZ h0 a cs) → va_S A s.heap H locs → lv_has ls 3 [] → W p l e (headSpec (wsOf yX12_isIn cX12_isIn 3 (some .boolean)) ({ frames := 1, cells := 0, slots := 0, locals := 60 * (1) } : Room)).room s m ([.ref h0, .int x1, .int x2] : List Value).toArray below meth c H locs 0 0 (MQ below (va_Qi (fun (x : Int32) (_ : Unit) => x = r9) (fun _ t_ => va_P (dC, dI) vwCl (mW cB cI cJ cZ h0 a cs) t_.heap ∧ va_D A (mW cB cI cJ cZ h0 a cs)) A) ([.ref h0, .int x1, .int x2] : List Value).toArray s 0 0 A) (F0 m 38 ls [.int y0]) := by
    intro y0 h H locs ls hP hD hS hl
    unfold m_isIn_b38 at h
    obtain ⟨w_1, hw_1, h⟩ := ob h
    have e2 := Option.some.inj h
    exact W.zret (v := y0) hx hb hr (nzN (ckZ_some hw_1)) (fun t_ ht hW => ⟨⟨y0, (), rfl, e2, by rw [ht]; exact hP, hD⟩, hS.F ht⟩) hS.2.2 dX12_isIn_38
  have B_33 : m_isIn_b33 F cs = some r9 → ∀ (H : Heap) (locs : List Loc) (ls : Array Slot), va_P (dC, dI) vwCl (mW cB cI cJ cZ h0 a cs) H → va_D A (mW cB cI cJ cZ h0 a cs) → va_S A s.heap H locs → lv_has ls 3 [] → W p l e (headSpec (wsOf yX12_isIn cX12_isIn 3 (some .boolean)) ({ frames := 1, cells := 0, slots := 0, locals := 60 * (1) } : Room)).room s m ([.ref h0, .int x1, .int x2] : List Value).toArray below meth c H locs 0 0 (MQ below (va_Qi (fun (x : Int32) (_ : Unit) => x = r9) (fun _ t_ => va_P (dC, dI) vwCl (mW cB cI cJ cZ h0 a cs) t_.heap ∧ va_D A (mW cB cI cJ cZ h0 a cs)) A) ([.ref h0, .int x1, .int x2] : List Value).toArray s 0 0 A) (F0 m 33 ls []) := by
    intro  h H locs ls hP hD hS hl
    unfold m_isIn_b33 at h
    refine lv_iconst (v := 1) hx hb dX12_isIn_33 (by decide) ?_
    refine lv_goto (tgt := 38) hx hb dX12_isIn_34 (by decide) ?_
    exact B_38 1 h _ _ _ hP hD hS (lv_sub hl [] rfl)
  have B_37 : m_isIn_b37 F cs = some r9 → ∀ (H : Heap) (locs : List Loc) (ls : Array Slot), va_P (dC, dI) vwCl (mW cB cI cJ cZ h0 a cs) H → va_D A (mW cB cI cJ cZ h0 a cs) → va_S A s.heap H locs → lv_has ls 3 [] → W p l e (headSpec (wsOf yX12_isIn cX12_isIn 3 (some .boolean)) ({ frames := 1, cells := 0, slots := 0, locals := 60 * (1) } : Room)).room s m ([.ref h0, .int x1, .int x2] : List Value).toArray below meth c H locs 0 0 (MQ below (va_Qi (fun (x : Int32) (_ : Unit) => x = r9) (fun _ t_ => va_P (dC, dI) vwCl (mW cB cI cJ cZ h0 a cs) t_.heap ∧ va_D A (mW cB cI cJ cZ h0 a cs)) A) ([.ref h0, .int x1, .int x2] : List Value).toArray s 0 0 A) (F0 m 37 ls []) := by
    intro  h H locs ls hP hD hS hl
    unfold m_isIn_b37 at h
    refine lv_iconst (v := 0) hx hb dX12_isIn_37 (by decide) ?_
    exact B_38 0 h _ _ _ hP hD hS (lv_sub hl [] rfl)
  have h := hf
  unfold m_isIn at h
  refine lv_aload_n hx hb dX12_isIn_0 rfl (lv_at hl 0 rfl) ?_
  refine fg_6 hx hb hts hown hK hP dX12_isIn_1 ?_
  refine lv_iload_n hx hb dX12_isIn_4 rfl (lv_at hl 2 rfl) ?_
  obtain ⟨v_2, hv_2, h⟩ := ob h
  refine ag_6 hx hb hK hP hv_2 dX12_isIn_5 ?_
  refine lv_if_eq (tgt := 37) hx hb dX12_isIn_6 (by decide) (fun c_3 => ?_) (fun c_3 => ?_)
  · skip
    replace h := (if_pos c_3).symm.trans h
    exact B_37  h _ _ _ hP hD hS (lv_sub hl [] rfl)
  · skip
    replace h := (if_neg c_3).symm.trans h
    refine lv_aload_n hx hb dX12_isIn_9 rfl (lv_at hl 0 rfl) ?_
    refine fg_51 hx hb hts hown hK hP dX12_isIn_10 ?_
    refine lv_iload_n hx hb dX12_isIn_13 rfl (lv_at hl 1 rfl) ?_
    obtain ⟨v_4, hv_4, h⟩ := ob h
    refine ag_51 hx hb hK hP hv_4 dX12_isIn_14 ?_
    refine lv_if_eq (tgt := 33) hx hb dX12_isIn_15 (by decide) (fun c_5 => ?_) (fun c_5 => ?_)
    · skip
      replace h := (if_pos c_5).symm.trans h
      exact B_33  h _ _ _ hP hD hS (lv_sub hl [] rfl)
    · skip
      replace h := (if_neg c_5).symm.trans h
      refine lv_aload_n hx hb dX12_isIn_18 rfl (lv_at hl 0 rfl) ?_
      refine fg_7 hx hb hts hown hK hP dX12_isIn_19 ?_
      refine lv_iload_n hx hb dX12_isIn_22 rfl (lv_at hl 2 rfl) ?_
      obtain ⟨v_6, hv_6, h⟩ := ob h
      refine ag_7 hx hb hK hP hv_6 dX12_isIn_23 ?_
      refine lv_aload_n hx hb dX12_isIn_24 rfl (lv_at hl 0 rfl) ?_
      refine lv_iload_n hx hb dX12_isIn_25 rfl (lv_at hl 1 rfl) ?_
      obtain ⟨v_7, hv_7, h⟩ := ob h
      refine calL (As := [.int x1]) hx hb hml hts hown hK hP hD hS hA hZ (s_since l dC dI cB cI cJ cZ h0 a K V fz F cs x1 v_7 hv_7) (cw_since hts (fr := 0) (Nat.le_of_ble_eq_true rfl) (Nat.le_of_ble_eq_true rfl)) rfl hl.1 (Nat.le_of_ble_eq_true rfl) ⟨Nat.zero_le _, Nat.zero_le _⟩ dX12_isIn_26 (fun H locs hP hD hS => ?_)
      refine W.lcmp hx hb dX12_isIn_29 ?_
      refine lv_if_lt (tgt := 37) hx hb dX12_isIn_30 (by decide) (fun c_8 => ?_) (fun c_8 => ?_)
      · skip
        have c_8 : v_6 < v_7 := (lg_cmp_lt _ _).mp c_8
        replace h := (if_pos c_8).symm.trans h
        exact B_37  h _ _ _ hP hD hS (lv_sub hl [] rfl)
      · skip
        have c_8 : ¬ (v_6 < v_7) := fun h9 => c_8 ((lg_cmp_lt _ _).mpr h9)
        replace h := (if_neg c_8).symm.trans h
        exact B_33  h _ _ _ hP hD hS (lv_sub hl [] rfl)
theorem cw_isIn {R : Room} {s : State} {args : Array Value} {y0 : MethodName} {c0 : ByteArray} {n0 : Nat} {r0 : Option FieldType} (hts : ∀ w ∈ wsOf y0 c0 n0 r0, w.before args s = true) {fr : Nat} (h1 : fr + 1 ≤ R.frames) (h2 : 8 + (3 + 11) + 60 * fr ≤ R.locals) : CallW R s args RX12 RX12 665 yX12_isIn cX12_isIn 3 (some .boolean) (wsOf yX12_isIn cX12_isIn 3 (some .boolean)) ({ frames := fr, cells := 0, slots := 0, locals := 60 * fr } : Room) 0 0 2 := cwV 2 hts (gd_all (in_V kw_2093 kw_2095 kw_104 kw_191 kc_X12_isIn)) rfl rfl rfl (by decide +kernel) ⟨h1, h2⟩
theorem dX12_newRow_0 : decode cX12_newRow 0 = .ok (.aload_n 0, 1) := by decide +kernel
theorem dX12_newRow_1 : decode cX12_newRow 1 = .ok (.getfield 203, 3) := by decide +kernel
theorem dX12_newRow_4 : decode cX12_newRow 4 = .ok (.iload_n 1, 1) := by decide +kernel
theorem dX12_newRow_5 : decode cX12_newRow 5 = .ok (.dup2, 1) := by decide +kernel
theorem dX12_newRow_6 : decode cX12_newRow 6 = .ok (.iaload, 1) := by decide +kernel
theorem dX12_newRow_7 : decode cX12_newRow 7 = .ok (.iconst 1, 1) := by decide +kernel
theorem dX12_newRow_8 : decode cX12_newRow 8 = .ok (.iadd, 1) := by decide +kernel
theorem dX12_newRow_9 : decode cX12_newRow 9 = .ok (.iastore, 1) := by decide +kernel
theorem dX12_newRow_10 : decode cX12_newRow 10 = .ok (.aload_n 0, 1) := by decide +kernel
theorem dX12_newRow_11 : decode cX12_newRow 11 = .ok (.dup, 1) := by decide +kernel
theorem dX12_newRow_12 : decode cX12_newRow 12 = .ok (.getfield 593, 3) := by decide +kernel
theorem dX12_newRow_15 : decode cX12_newRow 15 = .ok (.aload_n 0, 1) := by decide +kernel
theorem dX12_newRow_16 : decode cX12_newRow 16 = .ok (.getfield 206, 3) := by decide +kernel
theorem dX12_newRow_19 : decode cX12_newRow 19 = .ok (.iload_n 1, 1) := by decide +kernel
theorem dX12_newRow_20 : decode cX12_newRow 20 = .ok (.iaload, 1) := by decide +kernel
theorem dX12_newRow_21 : decode cX12_newRow 21 = .ok (.iadd, 1) := by decide +kernel
theorem dX12_newRow_22 : decode cX12_newRow 22 = .ok (.putfield 593, 3) := by decide +kernel
theorem dX12_newRow_25 : decode cX12_newRow 25 = .ok (.aload_n 0, 1) := by decide +kernel
theorem dX12_newRow_26 : decode cX12_newRow 26 = .ok (.getfield 593, 3) := by decide +kernel
theorem dX12_newRow_29 : decode cX12_newRow 29 = .ok (.aload_n 0, 1) := by decide +kernel
theorem dX12_newRow_30 : decode cX12_newRow 30 = .ok (.getfield 206, 3) := by decide +kernel
theorem dX12_newRow_33 : decode cX12_newRow 33 = .ok (.iload_n 1, 1) := by decide +kernel
theorem dX12_newRow_34 : decode cX12_newRow 34 = .ok (.iaload, 1) := by decide +kernel
theorem dX12_newRow_35 : decode cX12_newRow 35 = .ok (.isub, 1) := by decide +kernel
theorem dX12_newRow_36 : decode cX12_newRow 36 = .ok (.ireturn, 1) := by decide +kernel
def m_newRow (F : Nat) (cs : RS) (x1 : Int32) : Option (RS × Int32) := Option.bind (rdI (cs.2.2.1 89) 400 x1) fun v_1 => Option.bind (wrI cs 89 400 x1 (v_1 + 1)) fun cs_2 => Option.bind (rdI (cs_2.2.2.1 90) 400 x1) fun v_3 => Option.bind (rdI ((setF cs_2 87 ((cs_2.1 87) + v_3)).2.2.1 90) 400 x1) fun v_4 => some (setF cs_2 87 ((cs_2.1 87) + v_3), ((setF cs_2 87 ((cs_2.1 87) + v_3)).1 87) - v_4)
set_option maxHeartbeats 4000000 in
set_option maxRecDepth 100000 in
theorem s_newRow (l : Launch) (dC : Nat → ClassId) (dI : Nat → Nat → Nat) (cB cI cJ cZ : ClassId) (h0 : Nat) (a : Nat → Nat) (K V : Nat → Nat) (fz : Value) (F : Nat) (cs : RS) (x1 : Int32) (cs9 : RS) (r9 : Int32) (hf : m_newRow F cs x1 = some (cs9, r9)) : okI l dC dI cB cI cJ cZ h0 a K V fz yX12_newRow (wsOf yX12_newRow cX12_newRow 2 (some .int)) (0) [.ref h0, .int x1] cs cs9 r9 := by
  intro sz
  refine Met.ofW (cc := cX12_newRow) (maxL := 2) (ret := (some .int)) (by decide) rfl ?_
  intro p e s m args below meth c s₁ B hml hv
  obtain ⟨rfl, hsz, hP, hK, hD0, hZ⟩ := hv
  have hx := B.exec
  have hb := B.bytes
  have hr := B.returns
  have hts := atoms_spec (ws := (wsOf yX12_newRow cX12_newRow 2 (some .int))) B.pre
  have hown : s.vm.findClass RX12 = some m.cls := findClass_of_methodNamed B.named
  have hlocks := B.notSynchronized
  subst hsz
  have hD := hD0.self (sz := s.heap.size)
  generalize hAe : va_A (mW cB cI cJ cZ h0 a cs) s.heap.size = A at hD hZ ⊢
  have hA : ∀ q : Nat, s.heap.size ≤ q → A q := fun q h => by rw [← hAe]; exact Or.inr h
  have hS : va_S A s.heap s.heap [] := va_S.rf
  have hl := lv_entry ([.ref h0, .int x1]) (n := 2) (Nat.le_of_ble_eq_true rfl)
  rw [lg_entry_eq]
  generalize (lg_sl ([.ref h0, .int x1]) ++ List.replicate (2 - (lg_sl ([.ref h0, .int x1])).length) Slot.unset).toArray = ls at hl ⊢
  have hl : lv_has ls 2 [(0, .ref h0), (1, .int x1)] := hl
  have h := hf
  unfold m_newRow at h
  refine lv_aload_n hx hb dX12_newRow_0 rfl (lv_at hl 0 rfl) ?_
  refine fg_89 hx hb hts hown hK hP dX12_newRow_1 ?_
  refine lv_iload_n hx hb dX12_newRow_4 rfl (lv_at hl 1 rfl) ?_
  refine lv_dup2_11 hx hb dX12_newRow_5 rfl rfl ?_
  obtain ⟨v_1, hv_1, h⟩ := ob h
  refine ag_89 hx hb hK hP hv_1 dX12_newRow_6 ?_
  refine lv_iconst (v := 1) hx hb dX12_newRow_7 (by decide) ?_
  refine lv_iadd hx hb dX12_newRow_8 ?_
  obtain ⟨cs_2, hv_2, h⟩ := ob h
  refine ap_89 hx hb hK hP hD hS hv_2 dX12_newRow_9 (fun H locs hP hD hS => ?_)
  refine lv_aload_n hx hb dX12_newRow_10 rfl (lv_at hl 0 rfl) ?_
  refine lv_dup hx hb dX12_newRow_11 rfl ?_
  refine fg_87 hx hb hts hown hK hP dX12_newRow_12 ?_
  refine lv_aload_n hx hb dX12_newRow_15 rfl (lv_at hl 0 rfl) ?_
  refine fg_90 hx hb hts hown hK hP dX12_newRow_16 ?_
  refine lv_iload_n hx hb dX12_newRow_19 rfl (lv_at hl 1 rfl) ?_
  obtain ⟨v_3, hv_3, h⟩ := ob h
  refine ag_90 hx hb hK hP hv_3 dX12_newRow_20 ?_
  refine lv_iadd hx hb dX12_newRow_21 ?_
  refine fp_87 hx hb hts hown hK hP hD hS dX12_newRow_22 (fun H locs hP hD hS => ?_)
  refine lv_aload_n hx hb dX12_newRow_25 rfl (lv_at hl 0 rfl) ?_
  refine fg_87 hx hb hts hown hK hP dX12_newRow_26 ?_
  refine lv_aload_n hx hb dX12_newRow_29 rfl (lv_at hl 0 rfl) ?_
  refine fg_90 hx hb hts hown hK hP dX12_newRow_30 ?_
  refine lv_iload_n hx hb dX12_newRow_33 rfl (lv_at hl 1 rfl) ?_
  obtain ⟨v_4, hv_4, h⟩ := ob h
  refine ag_90 hx hb hK hP hv_4 dX12_newRow_34 ?_
  refine lv_isub hx hb dX12_newRow_35 ?_
  obtain ⟨e1, e2⟩ := Prod.mk.inj (Option.some.inj h)
  rw [e1] at hP hD
  exact W.iret (v := ((setF cs_2 87 ((cs_2.1 87) + v_3)).1 87) - v_4) hx hb hr (fun t_ ht hW => ⟨⟨((setF cs_2 87 ((cs_2.1 87) + v_3)).1 87) - v_4, (), rfl, e2, by rw [ht]; exact hP, hD⟩, hS.F ht⟩) hS.2.2 dX12_newRow_36
theorem cw_newRow {R : Room} {s : State} {args : Array Value} {y0 : MethodName} {c0 : ByteArray} {n0 : Nat} {r0 : Option FieldType} (hts : ∀ w ∈ wsOf y0 c0 n0 r0, w.before args s = true) {fr : Nat} (h1 : fr + 1 ≤ R.frames) (h2 : 8 + (2 + 11) + 60 * fr ≤ R.locals) : CallW R s args RX12 RX12 668 yX12_newRow cX12_newRow 2 (some .int) (wsOf yX12_newRow cX12_newRow 2 (some .int)) ({ frames := fr, cells := 0, slots := 0, locals := 60 * fr } : Room) 0 0 1 := cwV 1 hts (gd_all (in_V kw_2101 kw_2103 kw_106 kw_191 kc_X12_newRow)) rfl rfl rfl (by decide +kernel) ⟨h1, h2⟩
theorem dX12_rowAt_0 : decode cX12_rowAt 0 = .ok (.aload_n 0, 1) := by decide +kernel
theorem dX12_rowAt_1 : decode cX12_rowAt 1 = .ok (.getfield 200, 3) := by decide +kernel
theorem dX12_rowAt_4 : decode cX12_rowAt 4 = .ok (.iload_n 1, 1) := by decide +kernel
theorem dX12_rowAt_5 : decode cX12_rowAt 5 = .ok (.iaload, 1) := by decide +kernel
theorem dX12_rowAt_6 : decode cX12_rowAt 6 = .ok (.iload_n 2, 1) := by decide +kernel
theorem dX12_rowAt_7 : decode cX12_rowAt 7 = .ok (.aload_n 0, 1) := by decide +kernel
theorem dX12_rowAt_8 : decode cX12_rowAt 8 = .ok (.getfield 206, 3) := by decide +kernel
theorem dX12_rowAt_11 : decode cX12_rowAt 11 = .ok (.iload_n 1, 1) := by decide +kernel
theorem dX12_rowAt_12 : decode cX12_rowAt 12 = .ok (.iaload, 1) := by decide +kernel
theorem dX12_rowAt_13 : decode cX12_rowAt 13 = .ok (.imul, 1) := by decide +kernel
theorem dX12_rowAt_14 : decode cX12_rowAt 14 = .ok (.iadd, 1) := by decide +kernel
theorem dX12_rowAt_15 : decode cX12_rowAt 15 = .ok (.ireturn, 1) := by decide +kernel
def m_rowAt (F : Nat) (cs : RS) (x1 : Int32) (x2 : Int32) : Option Int32 := Option.bind (rdI (cs.2.2.1 88) 400 x1) fun v_1 => Option.bind (rdI (cs.2.2.1 90) 400 x1) fun v_2 => some (v_1 + (x2 * v_2))
set_option maxHeartbeats 4000000 in
set_option maxRecDepth 100000 in
theorem s_rowAt (l : Launch) (dC : Nat → ClassId) (dI : Nat → Nat → Nat) (cB cI cJ cZ : ClassId) (h0 : Nat) (a : Nat → Nat) (K V : Nat → Nat) (fz : Value) (F : Nat) (cs : RS) (x1 : Int32) (x2 : Int32) (r9 : Int32) (hf : m_rowAt F cs x1 x2 = some r9) : okI l dC dI cB cI cJ cZ h0 a K V fz yX12_rowAt (wsOf yX12_rowAt cX12_rowAt 3 (some .int)) (0) [.ref h0, .int x1, .int x2] cs cs r9 := by
  intro sz
  refine Met.ofW (cc := cX12_rowAt) (maxL := 3) (ret := (some .int)) (by decide) rfl ?_
  intro p e s m args below meth c s₁ B hml hv
  obtain ⟨rfl, hsz, hP, hK, hD0, hZ⟩ := hv
  have hx := B.exec
  have hb := B.bytes
  have hr := B.returns
  have hts := atoms_spec (ws := (wsOf yX12_rowAt cX12_rowAt 3 (some .int))) B.pre
  have hown : s.vm.findClass RX12 = some m.cls := findClass_of_methodNamed B.named
  have hlocks := B.notSynchronized
  subst hsz
  have hD := hD0.self (sz := s.heap.size)
  generalize hAe : va_A (mW cB cI cJ cZ h0 a cs) s.heap.size = A at hD hZ ⊢
  have hA : ∀ q : Nat, s.heap.size ≤ q → A q := fun q h => by rw [← hAe]; exact Or.inr h
  have hS : va_S A s.heap s.heap [] := va_S.rf
  have hl := lv_entry ([.ref h0, .int x1, .int x2]) (n := 3) (Nat.le_of_ble_eq_true rfl)
  rw [lg_entry_eq]
  generalize (lg_sl ([.ref h0, .int x1, .int x2]) ++ List.replicate (3 - (lg_sl ([.ref h0, .int x1, .int x2])).length) Slot.unset).toArray = ls at hl ⊢
  have hl : lv_has ls 3 [(0, .ref h0), (1, .int x1), (2, .int x2)] := hl
  have h := hf
  unfold m_rowAt at h
  refine lv_aload_n hx hb dX12_rowAt_0 rfl (lv_at hl 0 rfl) ?_
  refine fg_88 hx hb hts hown hK hP dX12_rowAt_1 ?_
  refine lv_iload_n hx hb dX12_rowAt_4 rfl (lv_at hl 1 rfl) ?_
  obtain ⟨v_1, hv_1, h⟩ := ob h
  refine ag_88 hx hb hK hP hv_1 dX12_rowAt_5 ?_
  refine lv_iload_n hx hb dX12_rowAt_6 rfl (lv_at hl 2 rfl) ?_
  refine lv_aload_n hx hb dX12_rowAt_7 rfl (lv_at hl 0 rfl) ?_
  refine fg_90 hx hb hts hown hK hP dX12_rowAt_8 ?_
  refine lv_iload_n hx hb dX12_rowAt_11 rfl (lv_at hl 1 rfl) ?_
  obtain ⟨v_2, hv_2, h⟩ := ob h
  refine ag_90 hx hb hK hP hv_2 dX12_rowAt_12 ?_
  refine lv_imul hx hb dX12_rowAt_13 ?_
  refine lv_iadd hx hb dX12_rowAt_14 ?_
  have e2 := Option.some.inj h
  exact W.iret (v := v_1 + (x2 * v_2)) hx hb hr (fun t_ ht hW => ⟨⟨v_1 + (x2 * v_2), (), rfl, e2, by rw [ht]; exact hP, hD⟩, hS.F ht⟩) hS.2.2 dX12_rowAt_15
theorem cw_rowAt {R : Room} {s : State} {args : Array Value} {y0 : MethodName} {c0 : ByteArray} {n0 : Nat} {r0 : Option FieldType} (hts : ∀ w ∈ wsOf y0 c0 n0 r0, w.before args s = true) {fr : Nat} (h1 : fr + 1 ≤ R.frames) (h2 : 8 + (3 + 11) + 60 * fr ≤ R.locals) : CallW R s args RX12 RX12 653 yX12_rowAt cX12_rowAt 3 (some .int) (wsOf yX12_rowAt cX12_rowAt 3 (some .int)) ({ frames := fr, cells := 0, slots := 0, locals := 60 * fr } : Room) 0 0 2 := cwV 2 hts (gd_all (in_V kw_2109 kw_2111 kw_108 kw_191 kc_X12_rowAt)) rfl rfl rfl (by decide +kernel) ⟨h1, h2⟩
theorem dX12_copy_0 : decode cX12_copy 0 = .ok (.iconst 0, 1) := by decide +kernel
theorem dX12_copy_1 : decode cX12_copy 1 = .ok (.istore 4, 2) := by decide +kernel
theorem dX12_copy_3 : decode cX12_copy 3 = .ok (.iload 4, 2) := by decide +kernel
theorem dX12_copy_5 : decode cX12_copy 5 = .ok (.iload_n 3, 1) := by decide +kernel
theorem dX12_copy_6 : decode cX12_copy 6 = .ok (.if_icmp .ge 45, 3) := by decide +kernel
theorem dX12_copy_9 : decode cX12_copy 9 = .ok (.aload_n 0, 1) := by decide +kernel
theorem dX12_copy_10 : decode cX12_copy 10 = .ok (.getfield 194, 3) := by decide +kernel
theorem dX12_copy_13 : decode cX12_copy 13 = .ok (.iload_n 2, 1) := by decide +kernel
theorem dX12_copy_14 : decode cX12_copy 14 = .ok (.iload 4, 2) := by decide +kernel
theorem dX12_copy_16 : decode cX12_copy 16 = .ok (.iadd, 1) := by decide +kernel
theorem dX12_copy_17 : decode cX12_copy 17 = .ok (.aload_n 0, 1) := by decide +kernel
theorem dX12_copy_18 : decode cX12_copy 18 = .ok (.getfield 194, 3) := by decide +kernel
theorem dX12_copy_21 : decode cX12_copy 21 = .ok (.iload_n 1, 1) := by decide +kernel
theorem dX12_copy_22 : decode cX12_copy 22 = .ok (.iload 4, 2) := by decide +kernel
theorem dX12_copy_24 : decode cX12_copy 24 = .ok (.iadd, 1) := by decide +kernel
theorem dX12_copy_25 : decode cX12_copy 25 = .ok (.laload, 1) := by decide +kernel
theorem dX12_copy_26 : decode cX12_copy 26 = .ok (.lastore, 1) := by decide +kernel
theorem dX12_copy_27 : decode cX12_copy 27 = .ok (.aload_n 0, 1) := by decide +kernel
theorem dX12_copy_28 : decode cX12_copy 28 = .ok (.getfield 197, 3) := by decide +kernel
theorem dX12_copy_31 : decode cX12_copy 31 = .ok (.iload_n 2, 1) := by decide +kernel
theorem dX12_copy_32 : decode cX12_copy 32 = .ok (.iload 4, 2) := by decide +kernel
theorem dX12_copy_34 : decode cX12_copy 34 = .ok (.iadd, 1) := by decide +kernel
theorem dX12_copy_35 : decode cX12_copy 35 = .ok (.aload_n 0, 1) := by decide +kernel
theorem dX12_copy_36 : decode cX12_copy 36 = .ok (.getfield 197, 3) := by decide +kernel
theorem dX12_copy_39 : decode cX12_copy 39 = .ok (.iload_n 1, 1) := by decide +kernel
theorem dX12_copy_40 : decode cX12_copy 40 = .ok (.iload 4, 2) := by decide +kernel
theorem dX12_copy_42 : decode cX12_copy 42 = .ok (.iadd, 1) := by decide +kernel
theorem dX12_copy_43 : decode cX12_copy 43 = .ok (.baload, 1) := by decide +kernel
theorem dX12_copy_44 : decode cX12_copy 44 = .ok (.bastore, 1) := by decide +kernel
theorem dX12_copy_45 : decode cX12_copy 45 = .ok (.iinc 4 1, 3) := by decide +kernel
theorem dX12_copy_48 : decode cX12_copy 48 = .ok (.goto (-45), 3) := by decide +kernel
theorem dX12_copy_51 : decode cX12_copy 51 = .ok (.return_, 1) := by decide +kernel
def m_copy_L3 (F : Nat) : Nat → RS → Int32 → Int32 → Int32 → Int32 → Option RS
  | 0, _, _, _, _, _ => none
  | lf_3 + 1, cs1, u1, u2, u3, u4 => if u3 ≤ u4 then (some cs1) else (Option.bind (rdL (cs1.2.2.2 85) 400000 (u1 + u4)) fun v_2 => Option.bind (wrL cs1 85 400000 (u2 + u4) v_2) fun cs_3 => Option.bind (rdI (cs_3.2.2.1 86) 400000 (u1 + u4)) fun v_4 => Option.bind (wrI cs_3 86 400000 (u2 + u4) (vp_nar .boolean v_4)) fun cs_5 => (m_copy_L3 F lf_3) cs_5 u1 u2 u3 (u4 + 1))
def m_copy (F : Nat) (cs : RS) (x1 : Int32) (x2 : Int32) (x3 : Int32) : Option RS := m_copy_L3 F F cs x1 x2 x3 0
set_option maxHeartbeats 4000000 in
set_option maxRecDepth 100000 in
theorem s_copy (l : Launch) (dC : Nat → ClassId) (dI : Nat → Nat → Nat) (cB cI cJ cZ : ClassId) (h0 : Nat) (a : Nat → Nat) (K V : Nat → Nat) (fz : Value) (F : Nat) (cs : RS) (x1 : Int32) (x2 : Int32) (x3 : Int32) (cs9 : RS) (hf : m_copy F cs x1 x2 x3 = some cs9) : okV l dC dI cB cI cJ cZ h0 a K V fz yX12_copy (wsOf yX12_copy cX12_copy 5 none) (0) [.ref h0, .int x1, .int x2, .int x3] cs cs9 := by
  intro sz
  refine Met.ofW (cc := cX12_copy) (maxL := 5) (ret := none) (by decide) rfl ?_
  intro p e s m args below meth c s₁ B hml hv
  obtain ⟨rfl, hsz, hP, hK, hD0, hZ⟩ := hv
  have hx := B.exec
  have hb := B.bytes
  have hr := B.returns
  have hts := atoms_spec (ws := (wsOf yX12_copy cX12_copy 5 none)) B.pre
  have hown : s.vm.findClass RX12 = some m.cls := findClass_of_methodNamed B.named
  have hlocks := B.notSynchronized
  subst hsz
  have hD := hD0.self (sz := s.heap.size)
  generalize hAe : va_A (mW cB cI cJ cZ h0 a cs) s.heap.size = A at hD hZ ⊢
  have hA : ∀ q : Nat, s.heap.size ≤ q → A q := fun q h => by rw [← hAe]; exact Or.inr h
  have hS : va_S A s.heap s.heap [] := va_S.rf
  have hl := lv_entry ([.ref h0, .int x1, .int x2, .int x3]) (n := 5) (Nat.le_of_ble_eq_true rfl)
  rw [lg_entry_eq]
  generalize (lg_sl ([.ref h0, .int x1, .int x2, .int x3]) ++ List.replicate (5 - (lg_sl ([.ref h0, .int x1, .int x2, .int x3])).length) Slot.unset).toArray = ls at hl ⊢
  have hl : lv_has ls 5 [(0, .ref h0), (1, .int x1), (2, .int x2), (3, .int x3)] := hl
  have L_3 : ∀ (lf_3 : Nat), ∀ (cs1 : RS) (u1 : Int32) (u2 : Int32) (u3 : Int32) (u4 : Int32), m_copy_L3 F lf_3 cs1 u1 u2 u3 u4 = some cs9 → ∀ (H : Heap) (locs : List Loc) (ls : Array Slot), va_P (dC, dI) vwCl (mW cB cI cJ cZ h0 a cs1) H → va_D A (mW cB cI cJ cZ h0 a cs1) → va_S A s.heap H locs → lv_has ls 5 [(0, .ref h0), (1, .int u1), (2, .int u2), (3, .int u3), (4, .int u4)] → W p l e (headSpec (wsOf yX12_copy cX12_copy 5 none) ({ frames := 0, cells := 0, slots := 0, locals := 60 * (0) } : Room)).room s m ([.ref h0, .int x1, .int x2, .int x3] : List Value).toArray below meth c H locs 0 0 (MQ below (va_Qv (fun (_ : Unit) => True) (fun _ t_ => va_P (dC, dI) vwCl (mW cB cI cJ cZ h0 a cs9) t_.heap ∧ va_D A (mW cB cI cJ cZ h0 a cs9)) A) ([.ref h0, .int x1, .int x2, .int x3] : List Value).toArray s 0 0 A) (F0 m 3 ls []) := by
    intro lf_3
    induction lf_3 with
    | zero => intro cs1 u1 u2 u3 u4 h; cases (show (none : Option RS) = _ from h)
    | succ lf_3 ih_3 =>
      intro cs1 u1 u2 u3 u4 h H locs ls hP hD hS hl
      rw [m_copy_L3] at h
      refine lv_iload hx hb dX12_copy_3 (lv_at hl 4 rfl) ?_
      refine lv_iload_n hx hb dX12_copy_5 rfl (lv_at hl 3 rfl) ?_
      refine lv_icmp_ge (tgt := 51) hx hb dX12_copy_6 (by decide) (fun c_1 => ?_) (fun c_1 => ?_)
      · skip
        replace h := (if_pos c_1).symm.trans h
        have e1 := Option.some.inj h
        rw [e1] at hP hD
        exact W.vret hx hb hr (fun t_ ht hW => ⟨⟨(), rfl, trivial, by rw [ht]; exact hP, hD⟩, hS.F ht⟩) hS.2.2 dX12_copy_51
      · skip
        replace h := (if_neg c_1).symm.trans h
        refine lv_aload_n hx hb dX12_copy_9 rfl (lv_at hl 0 rfl) ?_
        refine fg_85 hx hb hts hown hK hP dX12_copy_10 ?_
        refine lv_iload_n hx hb dX12_copy_13 rfl (lv_at hl 2 rfl) ?_
        refine lv_iload hx hb dX12_copy_14 (lv_at hl 4 rfl) ?_
        refine lv_iadd hx hb dX12_copy_16 ?_
        refine lv_aload_n hx hb dX12_copy_17 rfl (lv_at hl 0 rfl) ?_
        refine fg_85 hx hb hts hown hK hP dX12_copy_18 ?_
        refine lv_iload_n hx hb dX12_copy_21 rfl (lv_at hl 1 rfl) ?_
        refine lv_iload hx hb dX12_copy_22 (lv_at hl 4 rfl) ?_
        refine lv_iadd hx hb dX12_copy_24 ?_
        obtain ⟨v_2, hv_2, h⟩ := ob h
        refine ag_85 hx hb hK hP hv_2 dX12_copy_25 ?_
        obtain ⟨cs_3, hv_3, h⟩ := ob h
        refine ap_85 hx hb hK hP hD hS hv_3 dX12_copy_26 (fun H locs hP hD hS => ?_)
        refine lv_aload_n hx hb dX12_copy_27 rfl (lv_at hl 0 rfl) ?_
        refine fg_86 hx hb hts hown hK hP dX12_copy_28 ?_
        refine lv_iload_n hx hb dX12_copy_31 rfl (lv_at hl 2 rfl) ?_
        refine lv_iload hx hb dX12_copy_32 (lv_at hl 4 rfl) ?_
        refine lv_iadd hx hb dX12_copy_34 ?_
        refine lv_aload_n hx hb dX12_copy_35 rfl (lv_at hl 0 rfl) ?_
        refine fg_86 hx hb hts hown hK hP dX12_copy_36 ?_
        refine lv_iload_n hx hb dX12_copy_39 rfl (lv_at hl 1 rfl) ?_
        refine lv_iload hx hb dX12_copy_40 (lv_at hl 4 rfl) ?_
        refine lv_iadd hx hb dX12_copy_42 ?_
        obtain ⟨v_4, hv_4, h⟩ := ob h
        refine ag_86 hx hb hK hP hv_4 dX12_copy_43 ?_
        obtain ⟨cs_5, hv_5, h⟩ := ob h
        refine ap_86 hx hb hK hP hD hS hv_5 dX12_copy_44 (fun H locs hP hD hS => ?_)
        refine lv_iinc (v := u4 + 1) (lv' := [(4, .int (u4 + 1)), (0, .ref h0), (1, .int u1), (2, .int u2), (3, .int u3)]) hx hb dX12_copy_45 hl (k := 4) rfl rfl (by decide) rfl (fun ls hl => ?_)
        refine lv_goto (tgt := 3) hx hb dX12_copy_48 (by decide) ?_
        exact ih_3 cs_5 u1 u2 u3 (u4 + 1) h _ _ _ hP hD hS (lv_sub hl [1, 2, 3, 4, 0] rfl)
  have h := hf
  unfold m_copy at h
  refine lv_iconst (v := 0) hx hb dX12_copy_0 (by decide) ?_
  refine lv_istore (lv' := [(4, .int 0), (0, .ref h0), (1, .int x1), (2, .int x2), (3, .int x3)]) hx hb dX12_copy_1 hl (by decide) rfl (fun ls hl => ?_)
  exact L_3 F cs x1 x2 x3 0 h _ _ _ hP hD hS (lv_sub hl [1, 2, 3, 4, 0] rfl)
theorem cw_copy {R : Room} {s : State} {args : Array Value} {y0 : MethodName} {c0 : ByteArray} {n0 : Nat} {r0 : Option FieldType} (hts : ∀ w ∈ wsOf y0 c0 n0 r0, w.before args s = true) {fr : Nat} (h1 : fr + 1 ≤ R.frames) (h2 : 8 + (5 + 11) + 60 * fr ≤ R.locals) : CallW R s args RX12 RX12 671 yX12_copy cX12_copy 5 none (wsOf yX12_copy cX12_copy 5 none) ({ frames := fr, cells := 0, slots := 0, locals := 60 * fr } : Room) 0 0 3 := cwV 3 hts (gd_all (in_V kw_2113 kw_2115 kw_109 kw_191 kc_X12_copy)) rfl rfl rfl (by decide +kernel) ⟨h1, h2⟩
theorem dX12_some_0 : decode cX12_some 0 = .ok (.aload_n 0, 1) := by decide +kernel
theorem dX12_some_1 : decode cX12_some 1 = .ok (.iconst 0, 1) := by decide +kernel
theorem dX12_some_2 : decode cX12_some 2 = .ok (.putfield 604, 3) := by decide +kernel
theorem dX12_some_5 : decode cX12_some 5 = .ok (.lload_n 1, 1) := by decide +kernel
theorem dX12_some_6 : decode cX12_some 6 = .ok (.lreturn, 1) := by decide +kernel
def m_some (F : Nat) (cs : RS) (x1 : Int64) : Option (RS × Int64) := some (setF cs 92 0, x1)
set_option maxHeartbeats 4000000 in
set_option maxRecDepth 100000 in
theorem s_some (l : Launch) (dC : Nat → ClassId) (dI : Nat → Nat → Nat) (cB cI cJ cZ : ClassId) (h0 : Nat) (a : Nat → Nat) (K V : Nat → Nat) (fz : Value) (F : Nat) (cs : RS) (x1 : Int64) (cs9 : RS) (r9 : Int64) (hf : m_some F cs x1 = some (cs9, r9)) : okL l dC dI cB cI cJ cZ h0 a K V fz yX12_some (wsOf yX12_some cX12_some 3 (some .long)) (0) [.ref h0, .long x1] cs cs9 r9 := by
  intro sz
  refine Met.ofW (cc := cX12_some) (maxL := 3) (ret := (some .long)) (by decide) rfl ?_
  intro p e s m args below meth c s₁ B hml hv
  obtain ⟨rfl, hsz, hP, hK, hD0, hZ⟩ := hv
  have hx := B.exec
  have hb := B.bytes
  have hr := B.returns
  have hts := atoms_spec (ws := (wsOf yX12_some cX12_some 3 (some .long))) B.pre
  have hown : s.vm.findClass RX12 = some m.cls := findClass_of_methodNamed B.named
  have hlocks := B.notSynchronized
  subst hsz
  have hD := hD0.self (sz := s.heap.size)
  generalize hAe : va_A (mW cB cI cJ cZ h0 a cs) s.heap.size = A at hD hZ ⊢
  have hA : ∀ q : Nat, s.heap.size ≤ q → A q := fun q h => by rw [← hAe]; exact Or.inr h
  have hS : va_S A s.heap s.heap [] := va_S.rf
  have hl := lv_entry ([.ref h0, .long x1]) (n := 3) (Nat.le_of_ble_eq_true rfl)
  rw [lg_entry_eq]
  generalize (lg_sl ([.ref h0, .long x1]) ++ List.replicate (3 - (lg_sl ([.ref h0, .long x1])).length) Slot.unset).toArray = ls at hl ⊢
  have hl : lv_has ls 3 [(0, .ref h0), (1, .long x1)] := hl
  have h := hf
  unfold m_some at h
  refine lv_aload_n hx hb dX12_some_0 rfl (lv_at hl 0 rfl) ?_
  refine lv_iconst (v := 0) hx hb dX12_some_1 (by decide) ?_
  refine fp_92 hx hb hts hown hK hP hD hS (Or.inl rfl) dX12_some_2 (fun H locs hP hD hS => ?_)
  refine lv_lload_n hx hb dX12_some_5 rfl (lv_at hl 1 rfl) ?_
  obtain ⟨e1, e2⟩ := Prod.mk.inj (Option.some.inj h)
  rw [e1] at hP hD
  exact W.lret (v := x1) hx hb hr (fun t_ ht hW => ⟨⟨x1, (), rfl, e2, by rw [ht]; exact hP, hD⟩, hS.F ht⟩) hS.2.2 dX12_some_6
theorem cw_some {R : Room} {s : State} {args : Array Value} {y0 : MethodName} {c0 : ByteArray} {n0 : Nat} {r0 : Option FieldType} (hts : ∀ w ∈ wsOf y0 c0 n0 r0, w.before args s = true) {fr : Nat} (h1 : fr + 1 ≤ R.frames) (h2 : 8 + (3 + 11) + 60 * fr ≤ R.locals) : CallW R s args RX12 RX12 611 yX12_some cX12_some 3 (some .long) (wsOf yX12_some cX12_some 3 (some .long)) ({ frames := fr, cells := 0, slots := 0, locals := 60 * fr } : Room) 0 0 1 := cwV 1 hts (gd_all (in_V kw_2125 kw_2127 kw_112 kw_191 kc_X12_some)) rfl rfl rfl (by decide +kernel) ⟨h1, h2⟩
theorem dX12_nothing0_0 : decode cX12_nothing0 0 = .ok (.aload_n 0, 1) := by decide +kernel
theorem dX12_nothing0_1 : decode cX12_nothing0 1 = .ok (.iconst 1, 1) := by decide +kernel
theorem dX12_nothing0_2 : decode cX12_nothing0 2 = .ok (.putfield 604, 3) := by decide +kernel
theorem dX12_nothing0_5 : decode cX12_nothing0 5 = .ok (.lconst 0, 1) := by decide +kernel
theorem dX12_nothing0_6 : decode cX12_nothing0 6 = .ok (.lreturn, 1) := by decide +kernel
def m_nothing0 (F : Nat) (cs : RS) : Option (RS × Int64) := some (setF cs 92 1, 0)
set_option maxHeartbeats 4000000 in
set_option maxRecDepth 100000 in
theorem s_nothing0 (l : Launch) (dC : Nat → ClassId) (dI : Nat → Nat → Nat) (cB cI cJ cZ : ClassId) (h0 : Nat) (a : Nat → Nat) (K V : Nat → Nat) (fz : Value) (F : Nat) (cs : RS) (cs9 : RS) (r9 : Int64) (hf : m_nothing0 F cs = some (cs9, r9)) : okL l dC dI cB cI cJ cZ h0 a K V fz yX12_nothing0 (wsOf yX12_nothing0 cX12_nothing0 1 (some .long)) (0) [.ref h0] cs cs9 r9 := by
  intro sz
  refine Met.ofW (cc := cX12_nothing0) (maxL := 1) (ret := (some .long)) (by decide) rfl ?_
  intro p e s m args below meth c s₁ B hml hv
  obtain ⟨rfl, hsz, hP, hK, hD0, hZ⟩ := hv
  have hx := B.exec
  have hb := B.bytes
  have hr := B.returns
  have hts := atoms_spec (ws := (wsOf yX12_nothing0 cX12_nothing0 1 (some .long))) B.pre
  have hown : s.vm.findClass RX12 = some m.cls := findClass_of_methodNamed B.named
  have hlocks := B.notSynchronized
  subst hsz
  have hD := hD0.self (sz := s.heap.size)
  generalize hAe : va_A (mW cB cI cJ cZ h0 a cs) s.heap.size = A at hD hZ ⊢
  have hA : ∀ q : Nat, s.heap.size ≤ q → A q := fun q h => by rw [← hAe]; exact Or.inr h
  have hS : va_S A s.heap s.heap [] := va_S.rf
  have hl := lv_entry ([.ref h0]) (n := 1) (Nat.le_of_ble_eq_true rfl)
  rw [lg_entry_eq]
  generalize (lg_sl ([.ref h0]) ++ List.replicate (1 - (lg_sl ([.ref h0])).length) Slot.unset).toArray = ls at hl ⊢
  have hl : lv_has ls 1 [(0, .ref h0)] := hl
  have h := hf
  unfold m_nothing0 at h
  refine lv_aload_n hx hb dX12_nothing0_0 rfl (lv_at hl 0 rfl) ?_
  refine lv_iconst (v := 1) hx hb dX12_nothing0_1 (by decide) ?_
  refine fp_92 hx hb hts hown hK hP hD hS (Or.inr rfl) dX12_nothing0_2 (fun H locs hP hD hS => ?_)
  refine lv_lconst (v := 0) hx hb dX12_nothing0_5 (by decide) ?_
  obtain ⟨e1, e2⟩ := Prod.mk.inj (Option.some.inj h)
  rw [e1] at hP hD
  exact W.lret (v := 0) hx hb hr (fun t_ ht hW => ⟨⟨0, (), rfl, e2, by rw [ht]; exact hP, hD⟩, hS.F ht⟩) hS.2.2 dX12_nothing0_6
theorem cw_nothing0 {R : Room} {s : State} {args : Array Value} {y0 : MethodName} {c0 : ByteArray} {n0 : Nat} {r0 : Option FieldType} (hts : ∀ w ∈ wsOf y0 c0 n0 r0, w.before args s = true) {fr : Nat} (h1 : fr + 1 ≤ R.frames) (h2 : 8 + (1 + 11) + 60 * fr ≤ R.locals) : CallW R s args RX12 RX12 607 yX12_nothing0 cX12_nothing0 1 (some .long) (wsOf yX12_nothing0 cX12_nothing0 1 (some .long)) ({ frames := fr, cells := 0, slots := 0, locals := 60 * fr } : Room) 0 0 0 := cwV 0 hts (gd_all (in_V kw_2129 kw_2131 kw_113 kw_191 kc_X12_nothing0)) rfl rfl rfl (by decide +kernel) ⟨h1, h2⟩
theorem dX12_both_0 : decode cX12_both 0 = .ok (.iload_n 0, 1) := by decide +kernel
theorem dX12_both_1 : decode cX12_both 1 = .ok (.ifCond .eq 7, 3) := by decide +kernel
theorem dX12_both_4 : decode cX12_both 4 = .ok (.iconst 0, 1) := by decide +kernel
theorem dX12_both_5 : decode cX12_both 5 = .ok (.goto 4, 3) := by decide +kernel
theorem dX12_both_8 : decode cX12_both 8 = .ok (.iconst 1, 1) := by decide +kernel
theorem dX12_both_9 : decode cX12_both 9 = .ok (.istore_n 3, 1) := by decide +kernel
theorem dX12_both_10 : decode cX12_both 10 = .ok (.iload_n 1, 1) := by decide +kernel
theorem dX12_both_11 : decode cX12_both 11 = .ok (.iload_n 3, 1) := by decide +kernel
theorem dX12_both_12 : decode cX12_both 12 = .ok (.if_icmp .eq 8, 3) := by decide +kernel
theorem dX12_both_15 : decode cX12_both 15 = .ok (.iload_n 2, 1) := by decide +kernel
theorem dX12_both_16 : decode cX12_both 16 = .ok (.iload_n 3, 1) := by decide +kernel
theorem dX12_both_17 : decode cX12_both 17 = .ok (.if_icmp .ne 7, 3) := by decide +kernel
theorem dX12_both_20 : decode cX12_both 20 = .ok (.iload_n 3, 1) := by decide +kernel
theorem dX12_both_21 : decode cX12_both 21 = .ok (.goto 20, 3) := by decide +kernel
theorem dX12_both_24 : decode cX12_both 24 = .ok (.iload_n 1, 1) := by decide +kernel
theorem dX12_both_25 : decode cX12_both 25 = .ok (.iconst 2, 1) := by decide +kernel
theorem dX12_both_26 : decode cX12_both 26 = .ok (.if_icmp .eq 8, 3) := by decide +kernel
theorem dX12_both_29 : decode cX12_both 29 = .ok (.iload_n 2, 1) := by decide +kernel
theorem dX12_both_30 : decode cX12_both 30 = .ok (.iconst 2, 1) := by decide +kernel
theorem dX12_both_31 : decode cX12_both 31 = .ok (.if_icmp .ne 7, 3) := by decide +kernel
theorem dX12_both_34 : decode cX12_both 34 = .ok (.iconst 2, 1) := by decide +kernel
theorem dX12_both_35 : decode cX12_both 35 = .ok (.goto 6, 3) := by decide +kernel
theorem dX12_both_38 : decode cX12_both 38 = .ok (.iconst 1, 1) := by decide +kernel
theorem dX12_both_39 : decode cX12_both 39 = .ok (.iload_n 3, 1) := by decide +kernel
theorem dX12_both_40 : decode cX12_both 40 = .ok (.isub, 1) := by decide +kernel
theorem dX12_both_41 : decode cX12_both 41 = .ok (.ireturn, 1) := by decide +kernel
def m_both_b41 (F : Nat) (cs : RS) (y0 : Int32) : Option Int32 := some y0
def m_both_b20 (F : Nat) (cs : RS) (u3 : Int32) : Option Int32 := m_both_b41 F cs u3
def m_both_b34 (F : Nat) (cs : RS) : Option Int32 := m_both_b41 F cs 2
def m_both_b9 (F : Nat) (cs : RS) (u1 : Int32) (u2 : Int32) (y0 : Int32) : Option Int32 := if u1 = y0 then (m_both_b20 F cs y0) else (if u2 = y0 then (m_both_b20 F cs y0) else (if u1 = 2 then (m_both_b34 F cs ) else (if u2 = 2 then (m_both_b34 F cs ) else (m_both_b41 F cs (1 - y0)))))
def m_both (F : Nat) (cs : RS) (x0 : Int32) (x1 : Int32) (x2 : Int32) : Option Int32 := if x0 = 0 then (m_both_b9 F cs x1 x2 1) else (m_both_b9 F cs x1 x2 0)
set_option maxHeartbeats 4000000 in
set_option maxRecDepth 100000 in
theorem s_both (l : Launch) (dC : Nat → ClassId) (dI : Nat → Nat → Nat) (cB cI cJ cZ : ClassId) (h0 : Nat) (a : Nat → Nat) (K V : Nat → Nat) (fz : Value) (F : Nat) (cs : RS) (x0 : Int32) (x1 : Int32) (x2 : Int32) (r9 : Int32) (hf : m_both F cs x0 x1 x2 = some r9) : okI l dC dI cB cI cJ cZ h0 a K V fz yX12_both (wsOf yX12_both cX12_both 4 (some .int)) (0) [.int x0, .int x1, .int x2] cs cs r9 := by
  intro sz
  refine Met.ofW (cc := cX12_both) (maxL := 4) (ret := (some .int)) (by decide) rfl ?_
  intro p e s m args below meth c s₁ B hml hv
  obtain ⟨rfl, hsz, hP, hK, hD0, hZ⟩ := hv
  have hx := B.exec
  have hb := B.bytes
  have hr := B.returns
  have hts := atoms_spec (ws := (wsOf yX12_both cX12_both 4 (some .int))) B.pre
  have hown : s.vm.findClass RX12 = some m.cls := findClass_of_methodNamed B.named
  have hlocks := B.notSynchronized
  subst hsz
  have hD := hD0.self (sz := s.heap.size)
  generalize hAe : va_A (mW cB cI cJ cZ h0 a cs) s.heap.size = A at hD hZ ⊢
  have hA : ∀ q : Nat, s.heap.size ≤ q → A q := fun q h => by rw [← hAe]; exact Or.inr h
  have hS : va_S A s.heap s.heap [] := va_S.rf
  have hl := lv_entry ([.int x0, .int x1, .int x2]) (n := 4) (Nat.le_of_ble_eq_true rfl)
  rw [lg_entry_eq]
  generalize (lg_sl ([.int x0, .int x1, .int x2]) ++ List.replicate (4 - (lg_sl ([.int x0, .int x1, .int x2])).length) Slot.unset).toArray = ls at hl ⊢
  have hl : lv_has ls 4 [(0, .int x0), (1, .int x1), (2, .int x2)] := hl
  have B_41 : ∀ (y0 : Int32), m_both_b41 F cs y0 = some r9 → ∀ (H : Heap) (locs : List Loc) (ls : Array Slot), va_P (dC, dI) vwCl (mW cB cI cJ cZ h0 a cs) H → va_D A (mW cB cI cJ cZ h0 a cs) → va_S A s.heap H locs → lv_has ls 4 [] → W p l e (headSpec (wsOf yX12_both cX12_both 4 (some .int)) ({ frames := 0, cells := 0, slots := 0, locals := 60 * (0) } : Room)).room s m ([.int x0, .int x1, .int x2] : List Value).toArray below meth c H locs 0 0 (MQ below (va_Qi (fun (x : Int32) (_ : Unit) => x = r9) (fun _ t_ => va_P (dC, dI) vwCl (mW cB cI cJ cZ h0 a cs) t_.heap ∧ va_D A (mW cB cI cJ cZ h0 a cs)) A) ([.int x0, .int x1, .int x2] : List Value).toArray s 0 0 A) (F0 m 41 ls [.int y0]) := by
    intro y0 h H locs ls hP hD hS hl
    unfold m_both_b41 at h
    have e2 := Option.some.inj h
    exact W.iret (v := y0) hx hb hr (fun t_ ht hW => ⟨⟨y0, (), rfl, e2, by rw [ht]; exact hP, hD⟩, hS.F ht⟩) hS.2.2 dX12_both_41
  have B_20 : ∀ (u3 : Int32), m_both_b20 F cs u3 = some r9 → ∀ (H : Heap) (locs : List Loc) (ls : Array Slot), va_P (dC, dI) vwCl (mW cB cI cJ cZ h0 a cs) H → va_D A (mW cB cI cJ cZ h0 a cs) → va_S A s.heap H locs → lv_has ls 4 [(3, .int u3)] → W p l e (headSpec (wsOf yX12_both cX12_both 4 (some .int)) ({ frames := 0, cells := 0, slots := 0, locals := 60 * (0) } : Room)).room s m ([.int x0, .int x1, .int x2] : List Value).toArray below meth c H locs 0 0 (MQ below (va_Qi (fun (x : Int32) (_ : Unit) => x = r9) (fun _ t_ => va_P (dC, dI) vwCl (mW cB cI cJ cZ h0 a cs) t_.heap ∧ va_D A (mW cB cI cJ cZ h0 a cs)) A) ([.int x0, .int x1, .int x2] : List Value).toArray s 0 0 A) (F0 m 20 ls []) := by
    intro u3 h H locs ls hP hD hS hl
    unfold m_both_b20 at h
    refine lv_iload_n hx hb dX12_both_20 rfl (lv_at hl 0 rfl) ?_
    refine lv_goto (tgt := 41) hx hb dX12_both_21 (by decide) ?_
    exact B_41 u3 h _ _ _ hP hD hS (lv_sub hl [] rfl)
  have B_34 : m_both_b34 F cs = some r9 → ∀ (H : Heap) (locs : List Loc) (ls : Array Slot), va_P (dC, dI) vwCl (mW cB cI cJ cZ h0 a cs) H → va_D A (mW cB cI cJ cZ h0 a cs) → va_S A s.heap H locs → lv_has ls 4 [] → W p l e (headSpec (wsOf yX12_both cX12_both 4 (some .int)) ({ frames := 0, cells := 0, slots := 0, locals := 60 * (0) } : Room)).room s m ([.int x0, .int x1, .int x2] : List Value).toArray below meth c H locs 0 0 (MQ below (va_Qi (fun (x : Int32) (_ : Unit) => x = r9) (fun _ t_ => va_P (dC, dI) vwCl (mW cB cI cJ cZ h0 a cs) t_.heap ∧ va_D A (mW cB cI cJ cZ h0 a cs)) A) ([.int x0, .int x1, .int x2] : List Value).toArray s 0 0 A) (F0 m 34 ls []) := by
    intro  h H locs ls hP hD hS hl
    unfold m_both_b34 at h
    refine lv_iconst (v := 2) hx hb dX12_both_34 (by decide) ?_
    refine lv_goto (tgt := 41) hx hb dX12_both_35 (by decide) ?_
    exact B_41 2 h _ _ _ hP hD hS (lv_sub hl [] rfl)
  have B_9 : ∀ (u1 : Int32) (u2 : Int32) (y0 : Int32), m_both_b9 F cs u1 u2 y0 = some r9 → ∀ (H : Heap) (locs : List Loc) (ls : Array Slot), va_P (dC, dI) vwCl (mW cB cI cJ cZ h0 a cs) H → va_D A (mW cB cI cJ cZ h0 a cs) → va_S A s.heap H locs → lv_has ls 4 [(1, .int u1), (2, .int u2)] → W p l e (headSpec (wsOf yX12_both cX12_both 4 (some .int)) ({ frames := 0, cells := 0, slots := 0, locals := 60 * (0) } : Room)).room s m ([.int x0, .int x1, .int x2] : List Value).toArray below meth c H locs 0 0 (MQ below (va_Qi (fun (x : Int32) (_ : Unit) => x = r9) (fun _ t_ => va_P (dC, dI) vwCl (mW cB cI cJ cZ h0 a cs) t_.heap ∧ va_D A (mW cB cI cJ cZ h0 a cs)) A) ([.int x0, .int x1, .int x2] : List Value).toArray s 0 0 A) (F0 m 9 ls [.int y0]) := by
    intro u1 u2 y0 h H locs ls hP hD hS hl
    unfold m_both_b9 at h
    refine lv_istore_n (lv' := [(3, .int y0), (1, .int u1), (2, .int u2)]) hx hb dX12_both_9 rfl hl (by decide) rfl (fun ls hl => ?_)
    refine lv_iload_n hx hb dX12_both_10 rfl (lv_at hl 1 rfl) ?_
    refine lv_iload_n hx hb dX12_both_11 rfl (lv_at hl 0 rfl) ?_
    refine lv_icmp_eq (tgt := 20) hx hb dX12_both_12 (by decide) (fun c_1 => ?_) (fun c_1 => ?_)
    · skip
      replace h := (if_pos c_1).symm.trans h
      exact B_20 y0 h _ _ _ hP hD hS (lv_sub hl [0] rfl)
    · skip
      replace h := (if_neg c_1).symm.trans h
      refine lv_iload_n hx hb dX12_both_15 rfl (lv_at hl 2 rfl) ?_
      refine lv_iload_n hx hb dX12_both_16 rfl (lv_at hl 0 rfl) ?_
      refine lv_icmp_ne (tgt := 24) hx hb dX12_both_17 (by decide) (fun c_2 => ?_) (fun c_2 => ?_)
      · skip
        replace h := (if_neg c_2).symm.trans h
        refine lv_iload_n hx hb dX12_both_24 rfl (lv_at hl 1 rfl) ?_
        refine lv_iconst (v := 2) hx hb dX12_both_25 (by decide) ?_
        refine lv_icmp_eq (tgt := 34) hx hb dX12_both_26 (by decide) (fun c_3 => ?_) (fun c_3 => ?_)
        · skip
          replace h := (if_pos c_3).symm.trans h
          exact B_34  h _ _ _ hP hD hS (lv_sub hl [] rfl)
        · skip
          replace h := (if_neg c_3).symm.trans h
          refine lv_iload_n hx hb dX12_both_29 rfl (lv_at hl 2 rfl) ?_
          refine lv_iconst (v := 2) hx hb dX12_both_30 (by decide) ?_
          refine lv_icmp_ne (tgt := 38) hx hb dX12_both_31 (by decide) (fun c_4 => ?_) (fun c_4 => ?_)
          · skip
            replace h := (if_neg c_4).symm.trans h
            refine lv_iconst (v := 1) hx hb dX12_both_38 (by decide) ?_
            refine lv_iload_n hx hb dX12_both_39 rfl (lv_at hl 0 rfl) ?_
            refine lv_isub hx hb dX12_both_40 ?_
            exact B_41 (1 - y0) h _ _ _ hP hD hS (lv_sub hl [] rfl)
          · skip
            replace h := (if_pos c_4).symm.trans h
            exact B_34  h _ _ _ hP hD hS (lv_sub hl [] rfl)
      · skip
        replace h := (if_pos c_2).symm.trans h
        exact B_20 y0 h _ _ _ hP hD hS (lv_sub hl [0] rfl)
  have h := hf
  unfold m_both at h
  refine lv_iload_n hx hb dX12_both_0 rfl (lv_at hl 0 rfl) ?_
  refine lv_if_eq (tgt := 8) hx hb dX12_both_1 (by decide) (fun c_5 => ?_) (fun c_5 => ?_)
  · skip
    replace h := (if_pos c_5).symm.trans h
    refine lv_iconst (v := 1) hx hb dX12_both_8 (by decide) ?_
    exact B_9 x1 x2 1 h _ _ _ hP hD hS (lv_sub hl [1, 2] rfl)
  · skip
    replace h := (if_neg c_5).symm.trans h
    refine lv_iconst (v := 0) hx hb dX12_both_4 (by decide) ?_
    refine lv_goto (tgt := 9) hx hb dX12_both_5 (by decide) ?_
    exact B_9 x1 x2 0 h _ _ _ hP hD hS (lv_sub hl [1, 2] rfl)
theorem cw_both {R : Room} {s : State} {args : Array Value} {y0 : MethodName} {c0 : ByteArray} {n0 : Nat} {r0 : Option FieldType} (hts : ∀ w ∈ wsOf y0 c0 n0 r0, w.before args s = true) {fr : Nat} (h1 : fr + 1 ≤ R.frames) (h2 : 8 + (4 + 11) + 60 * fr ≤ R.locals) : CallB R s args RX12 631 yX12_both cX12_both 4 (some .int) (wsOf yX12_both cX12_both 4 (some .int)) ({ frames := fr, cells := 0, slots := 0, locals := 60 * fr } : Room) 0 0 3 ∧ (Cond.static yX12_both).before args s = true := ⟨callB_of 3 hts (gd_all (in_I kc_X12_both)) rfl rfl rfl (hts _ (List.mem_cons_of_mem _ kw_191)) (hts _ (List.mem_cons_of_mem _ kw_2137)) (by decide +kernel) ⟨h1, h2⟩, hts _ (List.mem_cons_of_mem _ kw_2138)⟩
theorem dX12_ofTruth_0 : decode cX12_ofTruth 0 = .ok (.iload_n 1, 1) := by decide +kernel
theorem dX12_ofTruth_1 : decode cX12_ofTruth 1 = .ok (.iconst 2, 1) := by decide +kernel
theorem dX12_ofTruth_2 : decode cX12_ofTruth 2 = .ok (.if_icmp .ne 10, 3) := by decide +kernel
theorem dX12_ofTruth_5 : decode cX12_ofTruth 5 = .ok (.aload_n 0, 1) := by decide +kernel
theorem dX12_ofTruth_6 : decode cX12_ofTruth 6 = .ok (.invokevirtual 607, 3) := by decide +kernel
theorem dX12_ofTruth_9 : decode cX12_ofTruth 9 = .ok (.goto 9, 3) := by decide +kernel
theorem dX12_ofTruth_12 : decode cX12_ofTruth 12 = .ok (.aload_n 0, 1) := by decide +kernel
theorem dX12_ofTruth_13 : decode cX12_ofTruth 13 = .ok (.iload_n 1, 1) := by decide +kernel
theorem dX12_ofTruth_14 : decode cX12_ofTruth 14 = .ok (.i2l, 1) := by decide +kernel
theorem dX12_ofTruth_15 : decode cX12_ofTruth 15 = .ok (.invokevirtual 611, 3) := by decide +kernel
theorem dX12_ofTruth_18 : decode cX12_ofTruth 18 = .ok (.lreturn, 1) := by decide +kernel
def m_ofTruth_b18 (F : Nat) (cs1 : RS) (y0 : Int64) : Option (RS × Int64) := some (cs1, y0)
def m_ofTruth (F : Nat) (cs : RS) (x1 : Int32) : Option (RS × Int64) := if x1 = 2 then (Option.bind (m_nothing0 F cs ) fun z_3 => m_ofTruth_b18 F z_3.1 z_3.2) else (Option.bind (m_some F cs ((x1 : Int32).toInt64)) fun z_2 => m_ofTruth_b18 F z_2.1 z_2.2)
set_option maxHeartbeats 4000000 in
set_option maxRecDepth 100000 in
theorem s_ofTruth (l : Launch) (dC : Nat → ClassId) (dI : Nat → Nat → Nat) (cB cI cJ cZ : ClassId) (h0 : Nat) (a : Nat → Nat) (K V : Nat → Nat) (fz : Value) (F : Nat) (cs : RS) (x1 : Int32) (cs9 : RS) (r9 : Int64) (hf : m_ofTruth F cs x1 = some (cs9, r9)) : okL l dC dI cB cI cJ cZ h0 a K V fz yX12_ofTruth (wsOf yX12_ofTruth cX12_ofTruth 2 (some .long)) (1) [.ref h0, .int x1] cs cs9 r9 := by
  intro sz
  refine Met.ofW (cc := cX12_ofTruth) (maxL := 2) (ret := (some .long)) (by decide) rfl ?_
  intro p e s m args below meth c s₁ B hml hv
  obtain ⟨rfl, hsz, hP, hK, hD0, hZ⟩ := hv
  have hx := B.exec
  have hb := B.bytes
  have hr := B.returns
  have hts := atoms_spec (ws := (wsOf yX12_ofTruth cX12_ofTruth 2 (some .long))) B.pre
  have hown : s.vm.findClass RX12 = some m.cls := findClass_of_methodNamed B.named
  have hlocks := B.notSynchronized
  subst hsz
  have hD := hD0.self (sz := s.heap.size)
  generalize hAe : va_A (mW cB cI cJ cZ h0 a cs) s.heap.size = A at hD hZ ⊢
  have hA : ∀ q : Nat, s.heap.size ≤ q → A q := fun q h => by rw [← hAe]; exact Or.inr h
  have hS : va_S A s.heap s.heap [] := va_S.rf
  have hl := lv_entry ([.ref h0, .int x1]) (n := 2) (Nat.le_of_ble_eq_true rfl)
  rw [lg_entry_eq]
  generalize (lg_sl ([.ref h0, .int x1]) ++ List.replicate (2 - (lg_sl ([.ref h0, .int x1])).length) Slot.unset).toArray = ls at hl ⊢
  have hl : lv_has ls 2 [(0, .ref h0), (1, .int x1)] := hl
  have B_18 : ∀ (cs1 : RS) (y0 : Int64), m_ofTruth_b18 F cs1 y0 = some (cs9, r9) → ∀ (H : Heap) (locs : List Loc) (ls : Array Slot), va_P (dC, dI) vwCl (mW cB cI cJ cZ h0 a cs1) H → va_D A (mW cB cI cJ cZ h0 a cs1) → va_S A s.heap H locs → lv_has ls 2 [] → W p l e (headSpec (wsOf yX12_ofTruth cX12_ofTruth 2 (some .long)) ({ frames := 1, cells := 0, slots := 0, locals := 60 * (1) } : Room)).room s m ([.ref h0, .int x1] : List Value).toArray below meth c H locs 0 0 (MQ below (va_Ql (fun (x : Int64) (_ : Unit) => x = r9) (fun _ t_ => va_P (dC, dI) vwCl (mW cB cI cJ cZ h0 a cs9) t_.heap ∧ va_D A (mW cB cI cJ cZ h0 a cs9)) A) ([.ref h0, .int x1] : List Value).toArray s 0 0 A) (F0 m 18 ls [.long y0]) := by
    intro cs1 y0 h H locs ls hP hD hS hl
    unfold m_ofTruth_b18 at h
    obtain ⟨e1, e2⟩ := Prod.mk.inj (Option.some.inj h)
    rw [e1] at hP hD
    exact W.lret (v := y0) hx hb hr (fun t_ ht hW => ⟨⟨y0, (), rfl, e2, by rw [ht]; exact hP, hD⟩, hS.F ht⟩) hS.2.2 dX12_ofTruth_18
  have h := hf
  unfold m_ofTruth at h
  refine lv_iload_n hx hb dX12_ofTruth_0 rfl (lv_at hl 1 rfl) ?_
  refine lv_iconst (v := 2) hx hb dX12_ofTruth_1 (by decide) ?_
  refine lv_icmp_ne (tgt := 12) hx hb dX12_ofTruth_2 (by decide) (fun c_1 => ?_) (fun c_1 => ?_)
  · skip
    replace h := (if_neg c_1).symm.trans h
    refine lv_aload_n hx hb dX12_ofTruth_12 rfl (lv_at hl 0 rfl) ?_
    refine lv_iload_n hx hb dX12_ofTruth_13 rfl (lv_at hl 1 rfl) ?_
    refine lv_i2l hx hb dX12_ofTruth_14 rfl ?_
    obtain ⟨z_2, hv_2, h⟩ := ob h
    refine calL (As := [.long ((x1 : Int32).toInt64)]) hx hb hml hts hown hK hP hD hS hA hZ (s_some l dC dI cB cI cJ cZ h0 a K V fz F cs ((x1 : Int32).toInt64) z_2.1 z_2.2 hv_2) (cw_some hts (fr := 0) (Nat.le_of_ble_eq_true rfl) (Nat.le_of_ble_eq_true rfl)) rfl hl.1 (Nat.le_of_ble_eq_true rfl) ⟨Nat.zero_le _, Nat.zero_le _⟩ dX12_ofTruth_15 (fun H locs hP hD hS => ?_)
    exact B_18 z_2.1 z_2.2 h _ _ _ hP hD hS (lv_sub hl [] rfl)
  · skip
    replace h := (if_pos c_1).symm.trans h
    refine lv_aload_n hx hb dX12_ofTruth_5 rfl (lv_at hl 0 rfl) ?_
    obtain ⟨z_3, hv_3, h⟩ := ob h
    refine calL (As := []) hx hb hml hts hown hK hP hD hS hA hZ (s_nothing0 l dC dI cB cI cJ cZ h0 a K V fz F cs  z_3.1 z_3.2 hv_3) (cw_nothing0 hts (fr := 0) (Nat.le_of_ble_eq_true rfl) (Nat.le_of_ble_eq_true rfl)) rfl hl.1 (Nat.le_of_ble_eq_true rfl) ⟨Nat.zero_le _, Nat.zero_le _⟩ dX12_ofTruth_6 (fun H locs hP hD hS => ?_)
    refine lv_goto (tgt := 18) hx hb dX12_ofTruth_9 (by decide) ?_
    exact B_18 z_3.1 z_3.2 h _ _ _ hP hD hS (lv_sub hl [] rfl)
theorem cw_ofTruth {R : Room} {s : State} {args : Array Value} {y0 : MethodName} {c0 : ByteArray} {n0 : Nat} {r0 : Option FieldType} (hts : ∀ w ∈ wsOf y0 c0 n0 r0, w.before args s = true) {fr : Nat} (h1 : fr + 1 ≤ R.frames) (h2 : 8 + (2 + 11) + 60 * fr ≤ R.locals) : CallW R s args RX12 RX12 635 yX12_ofTruth cX12_ofTruth 2 (some .long) (wsOf yX12_ofTruth cX12_ofTruth 2 (some .long)) ({ frames := fr, cells := 0, slots := 0, locals := 60 * fr } : Room) 0 0 1 := cwV 1 hts (gd_all (in_V kw_2140 kw_2142 kw_115 kw_191 kc_X12_ofTruth)) rfl rfl rfl (by decide +kernel) ⟨h1, h2⟩
theorem dX12_some2_0 : decode cX12_some2 0 = .ok (.iload_n 2, 1) := by decide +kernel
theorem dX12_some2_1 : decode cX12_some2 1 = .ok (.bipush 9, 2) := by decide +kernel
theorem dX12_some2_3 : decode cX12_some2 3 = .ok (.if_icmp .ne 152, 3) := by decide +kernel
theorem dX12_some2_6 : decode cX12_some2 6 = .ok (.aload_n 0, 1) := by decide +kernel
theorem dX12_some2_7 : decode cX12_some2 7 = .ok (.getfield 64, 3) := by decide +kernel
theorem dX12_some2_10 : decode cX12_some2 10 = .ok (.iload_n 1, 1) := by decide +kernel
theorem dX12_some2_11 : decode cX12_some2 11 = .ok (.iaload, 1) := by decide +kernel
theorem dX12_some2_12 : decode cX12_some2 12 = .ok (.istore 7, 2) := by decide +kernel
theorem dX12_some2_14 : decode cX12_some2 14 = .ok (.iload 7, 2) := by decide +kernel
theorem dX12_some2_16 : decode cX12_some2 16 = .ok (.bipush 61, 2) := by decide +kernel
theorem dX12_some2_18 : decode cX12_some2 18 = .ok (.if_icmp .ne 18, 3) := by decide +kernel
theorem dX12_some2_21 : decode cX12_some2 21 = .ok (.lload_n 3, 1) := by decide +kernel
theorem dX12_some2_22 : decode cX12_some2 22 = .ok (.lload 5, 2) := by decide +kernel
theorem dX12_some2_24 : decode cX12_some2 24 = .ok (.lcmp, 1) := by decide +kernel
theorem dX12_some2_25 : decode cX12_some2 25 = .ok (.ifCond .ne 7, 3) := by decide +kernel
theorem dX12_some2_28 : decode cX12_some2 28 = .ok (.iconst 1, 1) := by decide +kernel
theorem dX12_some2_29 : decode cX12_some2 29 = .ok (.goto 109, 3) := by decide +kernel
theorem dX12_some2_32 : decode cX12_some2 32 = .ok (.iconst 0, 1) := by decide +kernel
theorem dX12_some2_33 : decode cX12_some2 33 = .ok (.goto 105, 3) := by decide +kernel
theorem dX12_some2_36 : decode cX12_some2 36 = .ok (.iload 7, 2) := by decide +kernel
theorem dX12_some2_38 : decode cX12_some2 38 = .ok (.sipush 400, 3) := by decide +kernel
theorem dX12_some2_41 : decode cX12_some2 41 = .ok (.if_icmp .ne 18, 3) := by decide +kernel
theorem dX12_some2_44 : decode cX12_some2 44 = .ok (.lload_n 3, 1) := by decide +kernel
theorem dX12_some2_45 : decode cX12_some2 45 = .ok (.lload 5, 2) := by decide +kernel
theorem dX12_some2_47 : decode cX12_some2 47 = .ok (.lcmp, 1) := by decide +kernel
theorem dX12_some2_48 : decode cX12_some2 48 = .ok (.ifCond .eq 7, 3) := by decide +kernel
theorem dX12_some2_51 : decode cX12_some2 51 = .ok (.iconst 1, 1) := by decide +kernel
theorem dX12_some2_52 : decode cX12_some2 52 = .ok (.goto 86, 3) := by decide +kernel
theorem dX12_some2_55 : decode cX12_some2 55 = .ok (.iconst 0, 1) := by decide +kernel
theorem dX12_some2_56 : decode cX12_some2 56 = .ok (.goto 82, 3) := by decide +kernel
theorem dX12_some2_59 : decode cX12_some2 59 = .ok (.iload 7, 2) := by decide +kernel
theorem dX12_some2_61 : decode cX12_some2 61 = .ok (.bipush 60, 2) := by decide +kernel
theorem dX12_some2_63 : decode cX12_some2 63 = .ok (.if_icmp .ne 18, 3) := by decide +kernel
theorem dX12_some2_66 : decode cX12_some2 66 = .ok (.lload_n 3, 1) := by decide +kernel
theorem dX12_some2_67 : decode cX12_some2 67 = .ok (.lload 5, 2) := by decide +kernel
theorem dX12_some2_69 : decode cX12_some2 69 = .ok (.lcmp, 1) := by decide +kernel
theorem dX12_some2_70 : decode cX12_some2 70 = .ok (.ifCond .ge 7, 3) := by decide +kernel
theorem dX12_some2_73 : decode cX12_some2 73 = .ok (.iconst 1, 1) := by decide +kernel
theorem dX12_some2_74 : decode cX12_some2 74 = .ok (.goto 64, 3) := by decide +kernel
theorem dX12_some2_77 : decode cX12_some2 77 = .ok (.iconst 0, 1) := by decide +kernel
theorem dX12_some2_78 : decode cX12_some2 78 = .ok (.goto 60, 3) := by decide +kernel
theorem dX12_some2_81 : decode cX12_some2 81 = .ok (.iload 7, 2) := by decide +kernel
theorem dX12_some2_83 : decode cX12_some2 83 = .ok (.sipush 401, 3) := by decide +kernel
theorem dX12_some2_86 : decode cX12_some2 86 = .ok (.if_icmp .ne 18, 3) := by decide +kernel
theorem dX12_some2_89 : decode cX12_some2 89 = .ok (.lload_n 3, 1) := by decide +kernel
theorem dX12_some2_90 : decode cX12_some2 90 = .ok (.lload 5, 2) := by decide +kernel
theorem dX12_some2_92 : decode cX12_some2 92 = .ok (.lcmp, 1) := by decide +kernel
theorem dX12_some2_93 : decode cX12_some2 93 = .ok (.ifCond .gt 7, 3) := by decide +kernel
theorem dX12_some2_96 : decode cX12_some2 96 = .ok (.iconst 1, 1) := by decide +kernel
theorem dX12_some2_97 : decode cX12_some2 97 = .ok (.goto 41, 3) := by decide +kernel
theorem dX12_some2_100 : decode cX12_some2 100 = .ok (.iconst 0, 1) := by decide +kernel
theorem dX12_some2_101 : decode cX12_some2 101 = .ok (.goto 37, 3) := by decide +kernel
theorem dX12_some2_104 : decode cX12_some2 104 = .ok (.iload 7, 2) := by decide +kernel
theorem dX12_some2_106 : decode cX12_some2 106 = .ok (.bipush 62, 2) := by decide +kernel
theorem dX12_some2_108 : decode cX12_some2 108 = .ok (.if_icmp .ne 18, 3) := by decide +kernel
theorem dX12_some2_111 : decode cX12_some2 111 = .ok (.lload_n 3, 1) := by decide +kernel
theorem dX12_some2_112 : decode cX12_some2 112 = .ok (.lload 5, 2) := by decide +kernel
theorem dX12_some2_114 : decode cX12_some2 114 = .ok (.lcmp, 1) := by decide +kernel
theorem dX12_some2_115 : decode cX12_some2 115 = .ok (.ifCond .le 7, 3) := by decide +kernel
theorem dX12_some2_118 : decode cX12_some2 118 = .ok (.iconst 1, 1) := by decide +kernel
theorem dX12_some2_119 : decode cX12_some2 119 = .ok (.goto 19, 3) := by decide +kernel
theorem dX12_some2_122 : decode cX12_some2 122 = .ok (.iconst 0, 1) := by decide +kernel
theorem dX12_some2_123 : decode cX12_some2 123 = .ok (.goto 15, 3) := by decide +kernel
theorem dX12_some2_126 : decode cX12_some2 126 = .ok (.lload_n 3, 1) := by decide +kernel
theorem dX12_some2_127 : decode cX12_some2 127 = .ok (.lload 5, 2) := by decide +kernel
theorem dX12_some2_129 : decode cX12_some2 129 = .ok (.lcmp, 1) := by decide +kernel
theorem dX12_some2_130 : decode cX12_some2 130 = .ok (.ifCond .lt 7, 3) := by decide +kernel
theorem dX12_some2_133 : decode cX12_some2 133 = .ok (.iconst 1, 1) := by decide +kernel
theorem dX12_some2_134 : decode cX12_some2 134 = .ok (.goto 4, 3) := by decide +kernel
theorem dX12_some2_137 : decode cX12_some2 137 = .ok (.iconst 0, 1) := by decide +kernel
theorem dX12_some2_138 : decode cX12_some2 138 = .ok (.istore 8, 2) := by decide +kernel
theorem dX12_some2_140 : decode cX12_some2 140 = .ok (.aload_n 0, 1) := by decide +kernel
theorem dX12_some2_141 : decode cX12_some2 141 = .ok (.iload 8, 2) := by decide +kernel
theorem dX12_some2_143 : decode cX12_some2 143 = .ok (.ifCond .eq 7, 3) := by decide +kernel
theorem dX12_some2_146 : decode cX12_some2 146 = .ok (.lconst 1, 1) := by decide +kernel
theorem dX12_some2_147 : decode cX12_some2 147 = .ok (.goto 4, 3) := by decide +kernel
theorem dX12_some2_150 : decode cX12_some2 150 = .ok (.lconst 0, 1) := by decide +kernel
theorem dX12_some2_151 : decode cX12_some2 151 = .ok (.invokevirtual 611, 3) := by decide +kernel
theorem dX12_some2_154 : decode cX12_some2 154 = .ok (.lreturn, 1) := by decide +kernel
theorem dX12_some2_155 : decode cX12_some2 155 = .ok (.iload_n 2, 1) := by decide +kernel
theorem dX12_some2_156 : decode cX12_some2 156 = .ok (.bipush 12, 2) := by decide +kernel
theorem dX12_some2_158 : decode cX12_some2 158 = .ok (.if_icmp .ne 12, 3) := by decide +kernel
theorem dX12_some2_161 : decode cX12_some2 161 = .ok (.aload_n 0, 1) := by decide +kernel
theorem dX12_some2_162 : decode cX12_some2 162 = .ok (.lload_n 3, 1) := by decide +kernel
theorem dX12_some2_163 : decode cX12_some2 163 = .ok (.lload 5, 2) := by decide +kernel
theorem dX12_some2_165 : decode cX12_some2 165 = .ok (.ladd, 1) := by decide +kernel
theorem dX12_some2_166 : decode cX12_some2 166 = .ok (.invokevirtual 611, 3) := by decide +kernel
theorem dX12_some2_169 : decode cX12_some2 169 = .ok (.lreturn, 1) := by decide +kernel
theorem dX12_some2_170 : decode cX12_some2 170 = .ok (.iload_n 2, 1) := by decide +kernel
theorem dX12_some2_171 : decode cX12_some2 171 = .ok (.bipush 13, 2) := by decide +kernel
theorem dX12_some2_173 : decode cX12_some2 173 = .ok (.if_icmp .ne 12, 3) := by decide +kernel
theorem dX12_some2_176 : decode cX12_some2 176 = .ok (.aload_n 0, 1) := by decide +kernel
theorem dX12_some2_177 : decode cX12_some2 177 = .ok (.lload_n 3, 1) := by decide +kernel
theorem dX12_some2_178 : decode cX12_some2 178 = .ok (.lload 5, 2) := by decide +kernel
theorem dX12_some2_180 : decode cX12_some2 180 = .ok (.lsub, 1) := by decide +kernel
theorem dX12_some2_181 : decode cX12_some2 181 = .ok (.invokevirtual 611, 3) := by decide +kernel
theorem dX12_some2_184 : decode cX12_some2 184 = .ok (.lreturn, 1) := by decide +kernel
theorem dX12_some2_185 : decode cX12_some2 185 = .ok (.iload_n 2, 1) := by decide +kernel
theorem dX12_some2_186 : decode cX12_some2 186 = .ok (.bipush 14, 2) := by decide +kernel
theorem dX12_some2_188 : decode cX12_some2 188 = .ok (.if_icmp .ne 12, 3) := by decide +kernel
theorem dX12_some2_191 : decode cX12_some2 191 = .ok (.aload_n 0, 1) := by decide +kernel
theorem dX12_some2_192 : decode cX12_some2 192 = .ok (.lload_n 3, 1) := by decide +kernel
theorem dX12_some2_193 : decode cX12_some2 193 = .ok (.lload 5, 2) := by decide +kernel
theorem dX12_some2_195 : decode cX12_some2 195 = .ok (.lmul, 1) := by decide +kernel
theorem dX12_some2_196 : decode cX12_some2 196 = .ok (.invokevirtual 611, 3) := by decide +kernel
theorem dX12_some2_199 : decode cX12_some2 199 = .ok (.lreturn, 1) := by decide +kernel
theorem dX12_some2_200 : decode cX12_some2 200 = .ok (.iload_n 2, 1) := by decide +kernel
theorem dX12_some2_201 : decode cX12_some2 201 = .ok (.bipush 19, 2) := by decide +kernel
theorem dX12_some2_203 : decode cX12_some2 203 = .ok (.if_icmp .ne 45, 3) := by decide +kernel
theorem dX12_some2_206 : decode cX12_some2 206 = .ok (.lload 5, 2) := by decide +kernel
theorem dX12_some2_208 : decode cX12_some2 208 = .ok (.lconst 0, 1) := by decide +kernel
theorem dX12_some2_209 : decode cX12_some2 209 = .ok (.lcmp, 1) := by decide +kernel
theorem dX12_some2_210 : decode cX12_some2 210 = .ok (.ifCond .gt 8, 3) := by decide +kernel
theorem dX12_some2_213 : decode cX12_some2 213 = .ok (.aload_n 0, 1) := by decide +kernel
theorem dX12_some2_214 : decode cX12_some2 214 = .ok (.invokevirtual 607, 3) := by decide +kernel
theorem dX12_some2_217 : decode cX12_some2 217 = .ok (.lreturn, 1) := by decide +kernel
theorem dX12_some2_218 : decode cX12_some2 218 = .ok (.lload_n 3, 1) := by decide +kernel
theorem dX12_some2_219 : decode cX12_some2 219 = .ok (.lload 5, 2) := by decide +kernel
theorem dX12_some2_221 : decode cX12_some2 221 = .ok (.lrem, 1) := by decide +kernel
theorem dX12_some2_222 : decode cX12_some2 222 = .ok (.lstore 7, 2) := by decide +kernel
theorem dX12_some2_224 : decode cX12_some2 224 = .ok (.aload_n 0, 1) := by decide +kernel
theorem dX12_some2_225 : decode cX12_some2 225 = .ok (.lload_n 3, 1) := by decide +kernel
theorem dX12_some2_226 : decode cX12_some2 226 = .ok (.lload 7, 2) := by decide +kernel
theorem dX12_some2_228 : decode cX12_some2 228 = .ok (.lconst 0, 1) := by decide +kernel
theorem dX12_some2_229 : decode cX12_some2 229 = .ok (.lcmp, 1) := by decide +kernel
theorem dX12_some2_230 : decode cX12_some2 230 = .ok (.ifCond .ge 11, 3) := by decide +kernel
theorem dX12_some2_233 : decode cX12_some2 233 = .ok (.lload 7, 2) := by decide +kernel
theorem dX12_some2_235 : decode cX12_some2 235 = .ok (.lload 5, 2) := by decide +kernel
theorem dX12_some2_237 : decode cX12_some2 237 = .ok (.ladd, 1) := by decide +kernel
theorem dX12_some2_238 : decode cX12_some2 238 = .ok (.goto 5, 3) := by decide +kernel
theorem dX12_some2_241 : decode cX12_some2 241 = .ok (.lload 7, 2) := by decide +kernel
theorem dX12_some2_243 : decode cX12_some2 243 = .ok (.lsub, 1) := by decide +kernel
theorem dX12_some2_244 : decode cX12_some2 244 = .ok (.invokevirtual 611, 3) := by decide +kernel
theorem dX12_some2_247 : decode cX12_some2 247 = .ok (.lreturn, 1) := by decide +kernel
theorem dX12_some2_248 : decode cX12_some2 248 = .ok (.lload 5, 2) := by decide +kernel
theorem dX12_some2_250 : decode cX12_some2 250 = .ok (.lconst 0, 1) := by decide +kernel
theorem dX12_some2_251 : decode cX12_some2 251 = .ok (.lcmp, 1) := by decide +kernel
theorem dX12_some2_252 : decode cX12_some2 252 = .ok (.ifCond .ne 8, 3) := by decide +kernel
theorem dX12_some2_255 : decode cX12_some2 255 = .ok (.aload_n 0, 1) := by decide +kernel
theorem dX12_some2_256 : decode cX12_some2 256 = .ok (.invokevirtual 607, 3) := by decide +kernel
theorem dX12_some2_259 : decode cX12_some2 259 = .ok (.lreturn, 1) := by decide +kernel
theorem dX12_some2_260 : decode cX12_some2 260 = .ok (.aload_n 0, 1) := by decide +kernel
theorem dX12_some2_261 : decode cX12_some2 261 = .ok (.iload_n 2, 1) := by decide +kernel
theorem dX12_some2_262 : decode cX12_some2 262 = .ok (.bipush 15, 2) := by decide +kernel
theorem dX12_some2_264 : decode cX12_some2 264 = .ok (.if_icmp .ne 24, 3) := by decide +kernel
theorem dX12_some2_267 : decode cX12_some2 267 = .ok (.lload 5, 2) := by decide +kernel
theorem dX12_some2_269 : decode cX12_some2 269 = .ok (.ldc2_w 645, 3) := by decide +kernel
theorem dX12_some2_272 : decode cX12_some2 272 = .ok (.lcmp, 1) := by decide +kernel
theorem dX12_some2_273 : decode cX12_some2 273 = .ok (.ifCond .ne 8, 3) := by decide +kernel
theorem dX12_some2_276 : decode cX12_some2 276 = .ok (.lload_n 3, 1) := by decide +kernel
theorem dX12_some2_277 : decode cX12_some2 277 = .ok (.lneg, 1) := by decide +kernel
theorem dX12_some2_278 : decode cX12_some2 278 = .ok (.goto 27, 3) := by decide +kernel
theorem dX12_some2_281 : decode cX12_some2 281 = .ok (.lload_n 3, 1) := by decide +kernel
theorem dX12_some2_282 : decode cX12_some2 282 = .ok (.lload 5, 2) := by decide +kernel
theorem dX12_some2_284 : decode cX12_some2 284 = .ok (.ldiv, 1) := by decide +kernel
theorem dX12_some2_285 : decode cX12_some2 285 = .ok (.goto 20, 3) := by decide +kernel
theorem dX12_some2_288 : decode cX12_some2 288 = .ok (.lload 5, 2) := by decide +kernel
theorem dX12_some2_290 : decode cX12_some2 290 = .ok (.ldc2_w 645, 3) := by decide +kernel
theorem dX12_some2_293 : decode cX12_some2 293 = .ok (.lcmp, 1) := by decide +kernel
theorem dX12_some2_294 : decode cX12_some2 294 = .ok (.ifCond .ne 7, 3) := by decide +kernel
theorem dX12_some2_297 : decode cX12_some2 297 = .ok (.lconst 0, 1) := by decide +kernel
theorem dX12_some2_298 : decode cX12_some2 298 = .ok (.goto 7, 3) := by decide +kernel
theorem dX12_some2_301 : decode cX12_some2 301 = .ok (.lload_n 3, 1) := by decide +kernel
theorem dX12_some2_302 : decode cX12_some2 302 = .ok (.lload 5, 2) := by decide +kernel
theorem dX12_some2_304 : decode cX12_some2 304 = .ok (.lrem, 1) := by decide +kernel
theorem dX12_some2_305 : decode cX12_some2 305 = .ok (.invokevirtual 611, 3) := by decide +kernel
theorem dX12_some2_308 : decode cX12_some2 308 = .ok (.lreturn, 1) := by decide +kernel
def m_some2_b151 (F : Nat) (cs1 : RS) (y0 : Int64) : Option (RS × Int64) := Option.bind (m_some F cs1 y0) fun z_1 => some (z_1.1, z_1.2)
def m_some2_b138 (F : Nat) (cs1 : RS) (y0 : Int32) : Option (RS × Int64) := if y0 = 0 then (m_some2_b151 F cs1 0) else (m_some2_b151 F cs1 1)
def m_some2_b243 (F : Nat) (cs1 : RS) (y0 : Int64) (y1 : Int64) : Option (RS × Int64) := Option.bind (m_some F cs1 (y1 - y0)) fun z_3 => some (z_3.1, z_3.2)
def m_some2_b305 (F : Nat) (cs1 : RS) (y0 : Int64) : Option (RS × Int64) := Option.bind (m_some F cs1 y0) fun z_4 => some (z_4.1, z_4.2)
def m_some2 (F : Nat) (cs : RS) (x1 : Int32) (x2 : Int32) (x3 : Int64) (x5 : Int64) : Option (RS × Int64) := if x2 = 9 then (Option.bind (rdI (cs.2.2.1 27) 121 x1) fun v_24 => if v_24 = 61 then (if x3 = x5 then (m_some2_b138 F cs 1) else (m_some2_b138 F cs 0)) else (if v_24 = 400 then (if x3 = x5 then (m_some2_b138 F cs 0) else (m_some2_b138 F cs 1)) else (if v_24 = 60 then (if x5 ≤ x3 then (m_some2_b138 F cs 0) else (m_some2_b138 F cs 1)) else (if v_24 = 401 then (if x5 < x3 then (m_some2_b138 F cs 0) else (m_some2_b138 F cs 1)) else (if v_24 = 62 then (if x3 ≤ x5 then (m_some2_b138 F cs 0) else (m_some2_b138 F cs 1)) else (if x3 < x5 then (m_some2_b138 F cs 0) else (m_some2_b138 F cs 1))))))) else (if x2 = 12 then (Option.bind (m_some F cs (x3 + x5)) fun z_23 => some (z_23.1, z_23.2)) else (if x2 = 13 then (Option.bind (m_some F cs (x3 - x5)) fun z_22 => some (z_22.1, z_22.2)) else (if x2 = 14 then (Option.bind (m_some F cs (x3 * x5)) fun z_21 => some (z_21.1, z_21.2)) else (if x2 = 19 then (if 0 < x5 then (Option.bind (ckD x5) fun _ => if 0 ≤ (x3 - x3 / x5 * x5) then (m_some2_b243 F cs (x3 - x3 / x5 * x5) x3) else (m_some2_b243 F cs ((x3 - x3 / x5 * x5) + x5) x3)) else (Option.bind (m_nothing0 F cs ) fun z_20 => some (z_20.1, z_20.2))) else (if x5 = 0 then (Option.bind (m_nothing0 F cs ) fun z_16 => some (z_16.1, z_16.2)) else (if x2 = 15 then (if x5 = (-1) then (m_some2_b305 F cs (-x3)) else (Option.bind (ckD x5) fun _ => m_some2_b305 F cs (x3 / x5))) else (if x5 = (-1) then (m_some2_b305 F cs 0) else (Option.bind (ckD x5) fun _ => m_some2_b305 F cs (x3 - x3 / x5 * x5)))))))))
set_option maxHeartbeats 4000000 in
set_option maxRecDepth 100000 in
theorem s_some2 (l : Launch) (dC : Nat → ClassId) (dI : Nat → Nat → Nat) (cB cI cJ cZ : ClassId) (h0 : Nat) (a : Nat → Nat) (K V : Nat → Nat) (fz : Value) (F : Nat) (cs : RS) (x1 : Int32) (x2 : Int32) (x3 : Int64) (x5 : Int64) (cs9 : RS) (r9 : Int64) (hf : m_some2 F cs x1 x2 x3 x5 = some (cs9, r9)) : okL l dC dI cB cI cJ cZ h0 a K V fz yX12_some2 (wsOf yX12_some2 cX12_some2 9 (some .long)) (1) [.ref h0, .int x1, .int x2, .long x3, .long x5] cs cs9 r9 := by
  intro sz
  refine Met.ofW (cc := cX12_some2) (maxL := 9) (ret := (some .long)) (by decide) rfl ?_
  intro p e s m args below meth c s₁ B hml hv
  obtain ⟨rfl, hsz, hP, hK, hD0, hZ⟩ := hv
  have hx := B.exec
  have hb := B.bytes
  have hr := B.returns
  have hts := atoms_spec (ws := (wsOf yX12_some2 cX12_some2 9 (some .long))) B.pre
  have hown : s.vm.findClass RX12 = some m.cls := findClass_of_methodNamed B.named
  have hlocks := B.notSynchronized
  subst hsz
  have hD := hD0.self (sz := s.heap.size)
  generalize hAe : va_A (mW cB cI cJ cZ h0 a cs) s.heap.size = A at hD hZ ⊢
  have hA : ∀ q : Nat, s.heap.size ≤ q → A q := fun q h => by rw [← hAe]; exact Or.inr h
  have hS : va_S A s.heap s.heap [] := va_S.rf
  have hl := lv_entry ([.ref h0, .int x1, .int x2, .long x3, .long x5]) (n := 9) (Nat.le_of_ble_eq_true rfl)
  rw [lg_entry_eq]
  generalize (lg_sl ([.ref h0, .int x1, .int x2, .long x3, .long x5]) ++ List.replicate (9 - (lg_sl ([.ref h0, .int x1, .int x2, .long x3, .long x5])).length) Slot.unset).toArray = ls at hl ⊢
  have hl : lv_has ls 9 [(0, .ref h0), (1, .int x1), (2, .int x2), (3, .long x3), (5, .long x5)] := hl
  have B_151 : ∀ (cs1 : RS) (y0 : Int64), m_some2_b151 F cs1 y0 = some (cs9, r9) → ∀ (H : Heap) (locs : List Loc) (ls : Array Slot), va_P (dC, dI) vwCl (mW cB cI cJ cZ h0 a cs1) H → va_D A (mW cB cI cJ cZ h0 a cs1) → va_S A s.heap H locs → lv_has ls 9 [] → W p l e (headSpec (wsOf yX12_some2 cX12_some2 9 (some .long)) ({ frames := 1, cells := 0, slots := 0, locals := 60 * (1) } : Room)).room s m ([.ref h0, .int x1, .int x2, .long x3, .long x5] : List Value).toArray below meth c H locs 0 0 (MQ below (va_Ql (fun (x : Int64) (_ : Unit) => x = r9) (fun _ t_ => va_P (dC, dI) vwCl (mW cB cI cJ cZ h0 a cs9) t_.heap ∧ va_D A (mW cB cI cJ cZ h0 a cs9)) A) ([.ref h0, .int x1, .int x2, .long x3, .long x5] : List Value).toArray s 0 0 A) (F0 m 151 ls [.long y0, .ref h0]) := by
    intro cs1 y0 h H locs ls hP hD hS hl
    unfold m_some2_b151 at h
    obtain ⟨z_1, hv_1, h⟩ := ob h
    refine calL (As := [.long y0]) hx hb hml hts hown hK hP hD hS hA hZ (s_some l dC dI cB cI cJ cZ h0 a K V fz F cs1 y0 z_1.1 z_1.2 hv_1) (cw_some hts (fr := 0) (Nat.le_of_ble_eq_true rfl) (Nat.le_of_ble_eq_true rfl)) rfl hl.1 (Nat.le_of_ble_eq_true rfl) ⟨Nat.zero_le _, Nat.zero_le _⟩ dX12_some2_151 (fun H locs hP hD hS => ?_)
    obtain ⟨e1, e2⟩ := Prod.mk.inj (Option.some.inj h)
    rw [e1] at hP hD
    exact W.lret (v := z_1.2) hx hb hr (fun t_ ht hW => ⟨⟨z_1.2, (), rfl, e2, by rw [ht]; exact hP, hD⟩, hS.F ht⟩) hS.2.2 dX12_some2_154
  have B_138 : ∀ (cs1 : RS) (y0 : Int32), m_some2_b138 F cs1 y0 = some (cs9, r9) → ∀ (H : Heap) (locs : List Loc) (ls : Array Slot), va_P (dC, dI) vwCl (mW cB cI cJ cZ h0 a cs1) H → va_D A (mW cB cI cJ cZ h0 a cs1) → va_S A s.heap H locs → lv_has ls 9 [(0, .ref h0)] → W p l e (headSpec (wsOf yX12_some2 cX12_some2 9 (some .long)) ({ frames := 1, cells := 0, slots := 0, locals := 60 * (1) } : Room)).room s m ([.ref h0, .int x1, .int x2, .long x3, .long x5] : List Value).toArray below meth c H locs 0 0 (MQ below (va_Ql (fun (x : Int64) (_ : Unit) => x = r9) (fun _ t_ => va_P (dC, dI) vwCl (mW cB cI cJ cZ h0 a cs9) t_.heap ∧ va_D A (mW cB cI cJ cZ h0 a cs9)) A) ([.ref h0, .int x1, .int x2, .long x3, .long x5] : List Value).toArray s 0 0 A) (F0 m 138 ls [.int y0]) := by
    intro cs1 y0 h H locs ls hP hD hS hl
    unfold m_some2_b138 at h
    refine lv_istore (lv' := [(8, .int y0), (0, .ref h0)]) hx hb dX12_some2_138 hl (by decide) rfl (fun ls hl => ?_)
    refine lv_aload_n hx hb dX12_some2_140 rfl (lv_at hl 1 rfl) ?_
    refine lv_iload hx hb dX12_some2_141 (lv_at hl 0 rfl) ?_
    refine lv_if_eq (tgt := 150) hx hb dX12_some2_143 (by decide) (fun c_2 => ?_) (fun c_2 => ?_)
    · skip
      replace h := (if_pos c_2).symm.trans h
      refine lv_lconst (v := 0) hx hb dX12_some2_150 (by decide) ?_
      exact B_151 cs1 0 h _ _ _ hP hD hS (lv_sub hl [] rfl)
    · skip
      replace h := (if_neg c_2).symm.trans h
      refine lv_lconst (v := 1) hx hb dX12_some2_146 (by decide) ?_
      refine lv_goto (tgt := 151) hx hb dX12_some2_147 (by decide) ?_
      exact B_151 cs1 1 h _ _ _ hP hD hS (lv_sub hl [] rfl)
  have B_243 : ∀ (cs1 : RS) (y0 : Int64) (y1 : Int64), m_some2_b243 F cs1 y0 y1 = some (cs9, r9) → ∀ (H : Heap) (locs : List Loc) (ls : Array Slot), va_P (dC, dI) vwCl (mW cB cI cJ cZ h0 a cs1) H → va_D A (mW cB cI cJ cZ h0 a cs1) → va_S A s.heap H locs → lv_has ls 9 [] → W p l e (headSpec (wsOf yX12_some2 cX12_some2 9 (some .long)) ({ frames := 1, cells := 0, slots := 0, locals := 60 * (1) } : Room)).room s m ([.ref h0, .int x1, .int x2, .long x3, .long x5] : List Value).toArray below meth c H locs 0 0 (MQ below (va_Ql (fun (x : Int64) (_ : Unit) => x = r9) (fun _ t_ => va_P (dC, dI) vwCl (mW cB cI cJ cZ h0 a cs9) t_.heap ∧ va_D A (mW cB cI cJ cZ h0 a cs9)) A) ([.ref h0, .int x1, .int x2, .long x3, .long x5] : List Value).toArray s 0 0 A) (F0 m 243 ls [.long y0, .long y1, .ref h0]) := by
    intro cs1 y0 y1 h H locs ls hP hD hS hl
    unfold m_some2_b243 at h
    refine lv_lsub hx hb dX12_some2_243 ?_
    obtain ⟨z_3, hv_3, h⟩ := ob h
    refine calL (As := [.long (y1 - y0)]) hx hb hml hts hown hK hP hD hS hA hZ (s_some l dC dI cB cI cJ cZ h0 a K V fz F cs1 (y1 - y0) z_3.1 z_3.2 hv_3) (cw_some hts (fr := 0) (Nat.le_of_ble_eq_true rfl) (Nat.le_of_ble_eq_true rfl)) rfl hl.1 (Nat.le_of_ble_eq_true rfl) ⟨Nat.zero_le _, Nat.zero_le _⟩ dX12_some2_244 (fun H locs hP hD hS => ?_)
    obtain ⟨e1, e2⟩ := Prod.mk.inj (Option.some.inj h)
    rw [e1] at hP hD
    exact W.lret (v := z_3.2) hx hb hr (fun t_ ht hW => ⟨⟨z_3.2, (), rfl, e2, by rw [ht]; exact hP, hD⟩, hS.F ht⟩) hS.2.2 dX12_some2_247
  have B_305 : ∀ (cs1 : RS) (y0 : Int64), m_some2_b305 F cs1 y0 = some (cs9, r9) → ∀ (H : Heap) (locs : List Loc) (ls : Array Slot), va_P (dC, dI) vwCl (mW cB cI cJ cZ h0 a cs1) H → va_D A (mW cB cI cJ cZ h0 a cs1) → va_S A s.heap H locs → lv_has ls 9 [] → W p l e (headSpec (wsOf yX12_some2 cX12_some2 9 (some .long)) ({ frames := 1, cells := 0, slots := 0, locals := 60 * (1) } : Room)).room s m ([.ref h0, .int x1, .int x2, .long x3, .long x5] : List Value).toArray below meth c H locs 0 0 (MQ below (va_Ql (fun (x : Int64) (_ : Unit) => x = r9) (fun _ t_ => va_P (dC, dI) vwCl (mW cB cI cJ cZ h0 a cs9) t_.heap ∧ va_D A (mW cB cI cJ cZ h0 a cs9)) A) ([.ref h0, .int x1, .int x2, .long x3, .long x5] : List Value).toArray s 0 0 A) (F0 m 305 ls [.long y0, .ref h0]) := by
    intro cs1 y0 h H locs ls hP hD hS hl
    unfold m_some2_b305 at h
    obtain ⟨z_4, hv_4, h⟩ := ob h
    refine calL (As := [.long y0]) hx hb hml hts hown hK hP hD hS hA hZ (s_some l dC dI cB cI cJ cZ h0 a K V fz F cs1 y0 z_4.1 z_4.2 hv_4) (cw_some hts (fr := 0) (Nat.le_of_ble_eq_true rfl) (Nat.le_of_ble_eq_true rfl)) rfl hl.1 (Nat.le_of_ble_eq_true rfl) ⟨Nat.zero_le _, Nat.zero_le _⟩ dX12_some2_305 (fun H locs hP hD hS => ?_)
    obtain ⟨e1, e2⟩ := Prod.mk.inj (Option.some.inj h)
    rw [e1] at hP hD
    exact W.lret (v := z_4.2) hx hb hr (fun t_ ht hW => ⟨⟨z_4.2, (), rfl, e2, by rw [ht]; exact hP, hD⟩, hS.F ht⟩) hS.2.2 dX12_some2_308
  have h := hf
  unfold m_some2 at h
  refine lv_iload_n hx hb dX12_some2_0 rfl (lv_at hl 2 rfl) ?_
  refine lv_bipush (v := 9) hx hb dX12_some2_1 (by decide) ?_
  refine lv_icmp_ne (tgt := 155) hx hb dX12_some2_3 (by decide) (fun c_5 => ?_) (fun c_5 => ?_)
  · skip
    replace h := (if_neg c_5).symm.trans h
    refine lv_iload_n hx hb dX12_some2_155 rfl (lv_at hl 2 rfl) ?_
    refine lv_bipush (v := 12) hx hb dX12_some2_156 (by decide) ?_
    refine lv_icmp_ne (tgt := 170) hx hb dX12_some2_158 (by decide) (fun c_6 => ?_) (fun c_6 => ?_)
    · skip
      replace h := (if_neg c_6).symm.trans h
      refine lv_iload_n hx hb dX12_some2_170 rfl (lv_at hl 2 rfl) ?_
      refine lv_bipush (v := 13) hx hb dX12_some2_171 (by decide) ?_
      refine lv_icmp_ne (tgt := 185) hx hb dX12_some2_173 (by decide) (fun c_7 => ?_) (fun c_7 => ?_)
      · skip
        replace h := (if_neg c_7).symm.trans h
        refine lv_iload_n hx hb dX12_some2_185 rfl (lv_at hl 2 rfl) ?_
        refine lv_bipush (v := 14) hx hb dX12_some2_186 (by decide) ?_
        refine lv_icmp_ne (tgt := 200) hx hb dX12_some2_188 (by decide) (fun c_8 => ?_) (fun c_8 => ?_)
        · skip
          replace h := (if_neg c_8).symm.trans h
          refine lv_iload_n hx hb dX12_some2_200 rfl (lv_at hl 2 rfl) ?_
          refine lv_bipush (v := 19) hx hb dX12_some2_201 (by decide) ?_
          refine lv_icmp_ne (tgt := 248) hx hb dX12_some2_203 (by decide) (fun c_9 => ?_) (fun c_9 => ?_)
          · skip
            replace h := (if_neg c_9).symm.trans h
            refine lv_lload hx hb dX12_some2_248 (lv_at hl 4 rfl) ?_
            refine lv_lconst (v := 0) hx hb dX12_some2_250 (by decide) ?_
            refine W.lcmp hx hb dX12_some2_251 ?_
            refine lv_if_ne (tgt := 260) hx hb dX12_some2_252 (by decide) (fun c_10 => ?_) (fun c_10 => ?_)
            · skip
              have c_10 : ¬ (x5 = 0) := fun h9 => c_10 ((lg_cmp_eq _ _).mpr h9)
              replace h := (if_neg c_10).symm.trans h
              refine lv_aload_n hx hb dX12_some2_260 rfl (lv_at hl 0 rfl) ?_
              refine lv_iload_n hx hb dX12_some2_261 rfl (lv_at hl 2 rfl) ?_
              refine lv_bipush (v := 15) hx hb dX12_some2_262 (by decide) ?_
              refine lv_icmp_ne (tgt := 288) hx hb dX12_some2_264 (by decide) (fun c_11 => ?_) (fun c_11 => ?_)
              · skip
                replace h := (if_neg c_11).symm.trans h
                refine lv_lload hx hb dX12_some2_288 (lv_at hl 4 rfl) ?_
                refine lv_ldc2 hx hb hown (hts _ (List.mem_cons_of_mem _ kw_2152)) dX12_some2_290 ?_
                refine W.lcmp hx hb dX12_some2_293 ?_
                refine lv_if_ne (tgt := 301) hx hb dX12_some2_294 (by decide) (fun c_12 => ?_) (fun c_12 => ?_)
                · skip
                  have c_12 : ¬ (x5 = (-1)) := fun h9 => c_12 ((lg_cmp_eq _ _).mpr h9)
                  replace h := (if_neg c_12).symm.trans h
                  refine lv_lload_n hx hb dX12_some2_301 rfl (lv_at hl 3 rfl) ?_
                  refine lv_lload hx hb dX12_some2_302 (lv_at hl 4 rfl) ?_
                  obtain ⟨w_13, hw_13, h⟩ := ob h
                  refine lv_lrem hx hb dX12_some2_304 (ckD_some hw_13) ?_
                  exact B_305 cs (x3 - x3 / x5 * x5) h _ _ _ hP hD hS (lv_sub hl [] rfl)
                · skip
                  have c_12 : x5 = (-1) := (lg_cmp_eq _ _).mp c_12
                  replace h := (if_pos c_12).symm.trans h
                  refine lv_lconst (v := 0) hx hb dX12_some2_297 (by decide) ?_
                  refine lv_goto (tgt := 305) hx hb dX12_some2_298 (by decide) ?_
                  exact B_305 cs 0 h _ _ _ hP hD hS (lv_sub hl [] rfl)
              · skip
                replace h := (if_pos c_11).symm.trans h
                refine lv_lload hx hb dX12_some2_267 (lv_at hl 4 rfl) ?_
                refine lv_ldc2 hx hb hown (hts _ (List.mem_cons_of_mem _ kw_2152)) dX12_some2_269 ?_
                refine W.lcmp hx hb dX12_some2_272 ?_
                refine lv_if_ne (tgt := 281) hx hb dX12_some2_273 (by decide) (fun c_14 => ?_) (fun c_14 => ?_)
                · skip
                  have c_14 : ¬ (x5 = (-1)) := fun h9 => c_14 ((lg_cmp_eq _ _).mpr h9)
                  replace h := (if_neg c_14).symm.trans h
                  refine lv_lload_n hx hb dX12_some2_281 rfl (lv_at hl 3 rfl) ?_
                  refine lv_lload hx hb dX12_some2_282 (lv_at hl 4 rfl) ?_
                  obtain ⟨w_15, hw_15, h⟩ := ob h
                  refine lv_ldiv hx hb dX12_some2_284 (ckD_some hw_15) ?_
                  refine lv_goto (tgt := 305) hx hb dX12_some2_285 (by decide) ?_
                  exact B_305 cs (x3 / x5) h _ _ _ hP hD hS (lv_sub hl [] rfl)
                · skip
                  have c_14 : x5 = (-1) := (lg_cmp_eq _ _).mp c_14
                  replace h := (if_pos c_14).symm.trans h
                  refine lv_lload_n hx hb dX12_some2_276 rfl (lv_at hl 3 rfl) ?_
                  refine lv_lneg hx hb dX12_some2_277 ?_
                  refine lv_goto (tgt := 305) hx hb dX12_some2_278 (by decide) ?_
                  exact B_305 cs (-x3) h _ _ _ hP hD hS (lv_sub hl [] rfl)
            · skip
              have c_10 : x5 = 0 := (lg_cmp_eq _ _).mp c_10
              replace h := (if_pos c_10).symm.trans h
              refine lv_aload_n hx hb dX12_some2_255 rfl (lv_at hl 0 rfl) ?_
              obtain ⟨z_16, hv_16, h⟩ := ob h
              refine calL (As := []) hx hb hml hts hown hK hP hD hS hA hZ (s_nothing0 l dC dI cB cI cJ cZ h0 a K V fz F cs  z_16.1 z_16.2 hv_16) (cw_nothing0 hts (fr := 0) (Nat.le_of_ble_eq_true rfl) (Nat.le_of_ble_eq_true rfl)) rfl hl.1 (Nat.le_of_ble_eq_true rfl) ⟨Nat.zero_le _, Nat.zero_le _⟩ dX12_some2_256 (fun H locs hP hD hS => ?_)
              obtain ⟨e1, e2⟩ := Prod.mk.inj (Option.some.inj h)
              rw [e1] at hP hD
              exact W.lret (v := z_16.2) hx hb hr (fun t_ ht hW => ⟨⟨z_16.2, (), rfl, e2, by rw [ht]; exact hP, hD⟩, hS.F ht⟩) hS.2.2 dX12_some2_259
          · skip
            replace h := (if_pos c_9).symm.trans h
            refine lv_lload hx hb dX12_some2_206 (lv_at hl 4 rfl) ?_
            refine lv_lconst (v := 0) hx hb dX12_some2_208 (by decide) ?_
            refine W.lcmp hx hb dX12_some2_209 ?_
            refine lv_if_gt (tgt := 218) hx hb dX12_some2_210 (by decide) (fun c_17 => ?_) (fun c_17 => ?_)
            · skip
              have c_17 : 0 < x5 := (lg_cmp_gt _ _).mp c_17
              replace h := (if_pos c_17).symm.trans h
              refine lv_lload_n hx hb dX12_some2_218 rfl (lv_at hl 3 rfl) ?_
              refine lv_lload hx hb dX12_some2_219 (lv_at hl 4 rfl) ?_
              obtain ⟨w_18, hw_18, h⟩ := ob h
              refine lv_lrem hx hb dX12_some2_221 (ckD_some hw_18) ?_
              refine lv_lstore (lv' := [(7, .long (x3 - x3 / x5 * x5)), (0, .ref h0), (1, .int x1), (2, .int x2), (3, .long x3), (5, .long x5)]) hx hb dX12_some2_222 hl (by decide) rfl (fun ls hl => ?_)
              refine lv_aload_n hx hb dX12_some2_224 rfl (lv_at hl 1 rfl) ?_
              refine lv_lload_n hx hb dX12_some2_225 rfl (lv_at hl 4 rfl) ?_
              refine lv_lload hx hb dX12_some2_226 (lv_at hl 0 rfl) ?_
              refine lv_lconst (v := 0) hx hb dX12_some2_228 (by decide) ?_
              refine W.lcmp hx hb dX12_some2_229 ?_
              refine lv_if_ge (tgt := 241) hx hb dX12_some2_230 (by decide) (fun c_19 => ?_) (fun c_19 => ?_)
              · skip
                have c_19 : 0 ≤ (x3 - x3 / x5 * x5) := (lg_cmp_ge _ _).mp c_19
                replace h := (if_pos c_19).symm.trans h
                refine lv_lload hx hb dX12_some2_241 (lv_at hl 0 rfl) ?_
                exact B_243 cs (x3 - x3 / x5 * x5) x3 h _ _ _ hP hD hS (lv_sub hl [] rfl)
              · skip
                have c_19 : ¬ (0 ≤ (x3 - x3 / x5 * x5)) := fun h9 => c_19 ((lg_cmp_ge _ _).mpr h9)
                replace h := (if_neg c_19).symm.trans h
                refine lv_lload hx hb dX12_some2_233 (lv_at hl 0 rfl) ?_
                refine lv_lload hx hb dX12_some2_235 (lv_at hl 5 rfl) ?_
                refine lv_ladd hx hb dX12_some2_237 ?_
                refine lv_goto (tgt := 243) hx hb dX12_some2_238 (by decide) ?_
                exact B_243 cs ((x3 - x3 / x5 * x5) + x5) x3 h _ _ _ hP hD hS (lv_sub hl [] rfl)
            · skip
              have c_17 : ¬ (0 < x5) := fun h9 => c_17 ((lg_cmp_gt _ _).mpr h9)
              replace h := (if_neg c_17).symm.trans h
              refine lv_aload_n hx hb dX12_some2_213 rfl (lv_at hl 0 rfl) ?_
              obtain ⟨z_20, hv_20, h⟩ := ob h
              refine calL (As := []) hx hb hml hts hown hK hP hD hS hA hZ (s_nothing0 l dC dI cB cI cJ cZ h0 a K V fz F cs  z_20.1 z_20.2 hv_20) (cw_nothing0 hts (fr := 0) (Nat.le_of_ble_eq_true rfl) (Nat.le_of_ble_eq_true rfl)) rfl hl.1 (Nat.le_of_ble_eq_true rfl) ⟨Nat.zero_le _, Nat.zero_le _⟩ dX12_some2_214 (fun H locs hP hD hS => ?_)
              obtain ⟨e1, e2⟩ := Prod.mk.inj (Option.some.inj h)
              rw [e1] at hP hD
              exact W.lret (v := z_20.2) hx hb hr (fun t_ ht hW => ⟨⟨z_20.2, (), rfl, e2, by rw [ht]; exact hP, hD⟩, hS.F ht⟩) hS.2.2 dX12_some2_217
        · skip
          replace h := (if_pos c_8).symm.trans h
          refine lv_aload_n hx hb dX12_some2_191 rfl (lv_at hl 0 rfl) ?_
          refine lv_lload_n hx hb dX12_some2_192 rfl (lv_at hl 3 rfl) ?_
          refine lv_lload hx hb dX12_some2_193 (lv_at hl 4 rfl) ?_
          refine lv_lmul hx hb dX12_some2_195 ?_
          obtain ⟨z_21, hv_21, h⟩ := ob h
          refine calL (As := [.long (x3 * x5)]) hx hb hml hts hown hK hP hD hS hA hZ (s_some l dC dI cB cI cJ cZ h0 a K V fz F cs (x3 * x5) z_21.1 z_21.2 hv_21) (cw_some hts (fr := 0) (Nat.le_of_ble_eq_true rfl) (Nat.le_of_ble_eq_true rfl)) rfl hl.1 (Nat.le_of_ble_eq_true rfl) ⟨Nat.zero_le _, Nat.zero_le _⟩ dX12_some2_196 (fun H locs hP hD hS => ?_)
          obtain ⟨e1, e2⟩ := Prod.mk.inj (Option.some.inj h)
          rw [e1] at hP hD
          exact W.lret (v := z_21.2) hx hb hr (fun t_ ht hW => ⟨⟨z_21.2, (), rfl, e2, by rw [ht]; exact hP, hD⟩, hS.F ht⟩) hS.2.2 dX12_some2_199
      · skip
        replace h := (if_pos c_7).symm.trans h
        refine lv_aload_n hx hb dX12_some2_176 rfl (lv_at hl 0 rfl) ?_
        refine lv_lload_n hx hb dX12_some2_177 rfl (lv_at hl 3 rfl) ?_
        refine lv_lload hx hb dX12_some2_178 (lv_at hl 4 rfl) ?_
        refine lv_lsub hx hb dX12_some2_180 ?_
        obtain ⟨z_22, hv_22, h⟩ := ob h
        refine calL (As := [.long (x3 - x5)]) hx hb hml hts hown hK hP hD hS hA hZ (s_some l dC dI cB cI cJ cZ h0 a K V fz F cs (x3 - x5) z_22.1 z_22.2 hv_22) (cw_some hts (fr := 0) (Nat.le_of_ble_eq_true rfl) (Nat.le_of_ble_eq_true rfl)) rfl hl.1 (Nat.le_of_ble_eq_true rfl) ⟨Nat.zero_le _, Nat.zero_le _⟩ dX12_some2_181 (fun H locs hP hD hS => ?_)
        obtain ⟨e1, e2⟩ := Prod.mk.inj (Option.some.inj h)
        rw [e1] at hP hD
        exact W.lret (v := z_22.2) hx hb hr (fun t_ ht hW => ⟨⟨z_22.2, (), rfl, e2, by rw [ht]; exact hP, hD⟩, hS.F ht⟩) hS.2.2 dX12_some2_184
    · skip
      replace h := (if_pos c_6).symm.trans h
      refine lv_aload_n hx hb dX12_some2_161 rfl (lv_at hl 0 rfl) ?_
      refine lv_lload_n hx hb dX12_some2_162 rfl (lv_at hl 3 rfl) ?_
      refine lv_lload hx hb dX12_some2_163 (lv_at hl 4 rfl) ?_
      refine lv_ladd hx hb dX12_some2_165 ?_
      obtain ⟨z_23, hv_23, h⟩ := ob h
      refine calL (As := [.long (x3 + x5)]) hx hb hml hts hown hK hP hD hS hA hZ (s_some l dC dI cB cI cJ cZ h0 a K V fz F cs (x3 + x5) z_23.1 z_23.2 hv_23) (cw_some hts (fr := 0) (Nat.le_of_ble_eq_true rfl) (Nat.le_of_ble_eq_true rfl)) rfl hl.1 (Nat.le_of_ble_eq_true rfl) ⟨Nat.zero_le _, Nat.zero_le _⟩ dX12_some2_166 (fun H locs hP hD hS => ?_)
      obtain ⟨e1, e2⟩ := Prod.mk.inj (Option.some.inj h)
      rw [e1] at hP hD
      exact W.lret (v := z_23.2) hx hb hr (fun t_ ht hW => ⟨⟨z_23.2, (), rfl, e2, by rw [ht]; exact hP, hD⟩, hS.F ht⟩) hS.2.2 dX12_some2_169
  · skip
    replace h := (if_pos c_5).symm.trans h
    refine lv_aload_n hx hb dX12_some2_6 rfl (lv_at hl 0 rfl) ?_
    refine fg_27 hx hb hts hown hK hP dX12_some2_7 ?_
    refine lv_iload_n hx hb dX12_some2_10 rfl (lv_at hl 1 rfl) ?_
    obtain ⟨v_24, hv_24, h⟩ := ob h
    refine ag_27 hx hb hK hP hv_24 dX12_some2_11 ?_
    refine lv_istore (lv' := [(7, .int v_24), (0, .ref h0), (1, .int x1), (2, .int x2), (3, .long x3), (5, .long x5)]) hx hb dX12_some2_12 hl (by decide) rfl (fun ls hl => ?_)
    refine lv_iload hx hb dX12_some2_14 (lv_at hl 0 rfl) ?_
    refine lv_bipush (v := 61) hx hb dX12_some2_16 (by decide) ?_
    refine lv_icmp_ne (tgt := 36) hx hb dX12_some2_18 (by decide) (fun c_25 => ?_) (fun c_25 => ?_)
    · skip
      replace h := (if_neg c_25).symm.trans h
      refine lv_iload hx hb dX12_some2_36 (lv_at hl 0 rfl) ?_
      refine lv_sipush (v := 400) hx hb dX12_some2_38 (by decide) ?_
      refine lv_icmp_ne (tgt := 59) hx hb dX12_some2_41 (by decide) (fun c_26 => ?_) (fun c_26 => ?_)
      · skip
        replace h := (if_neg c_26).symm.trans h
        refine lv_iload hx hb dX12_some2_59 (lv_at hl 0 rfl) ?_
        refine lv_bipush (v := 60) hx hb dX12_some2_61 (by decide) ?_
        refine lv_icmp_ne (tgt := 81) hx hb dX12_some2_63 (by decide) (fun c_27 => ?_) (fun c_27 => ?_)
        · skip
          replace h := (if_neg c_27).symm.trans h
          refine lv_iload hx hb dX12_some2_81 (lv_at hl 0 rfl) ?_
          refine lv_sipush (v := 401) hx hb dX12_some2_83 (by decide) ?_
          refine lv_icmp_ne (tgt := 104) hx hb dX12_some2_86 (by decide) (fun c_28 => ?_) (fun c_28 => ?_)
          · skip
            replace h := (if_neg c_28).symm.trans h
            refine lv_iload hx hb dX12_some2_104 (lv_at hl 0 rfl) ?_
            refine lv_bipush (v := 62) hx hb dX12_some2_106 (by decide) ?_
            refine lv_icmp_ne (tgt := 126) hx hb dX12_some2_108 (by decide) (fun c_29 => ?_) (fun c_29 => ?_)
            · skip
              replace h := (if_neg c_29).symm.trans h
              refine lv_lload_n hx hb dX12_some2_126 rfl (lv_at hl 4 rfl) ?_
              refine lv_lload hx hb dX12_some2_127 (lv_at hl 5 rfl) ?_
              refine W.lcmp hx hb dX12_some2_129 ?_
              refine lv_if_lt (tgt := 137) hx hb dX12_some2_130 (by decide) (fun c_30 => ?_) (fun c_30 => ?_)
              · skip
                have c_30 : x3 < x5 := (lg_cmp_lt _ _).mp c_30
                replace h := (if_pos c_30).symm.trans h
                refine lv_iconst (v := 0) hx hb dX12_some2_137 (by decide) ?_
                exact B_138 cs 0 h _ _ _ hP hD hS (lv_sub hl [1] rfl)
              · skip
                have c_30 : ¬ (x3 < x5) := fun h9 => c_30 ((lg_cmp_lt _ _).mpr h9)
                replace h := (if_neg c_30).symm.trans h
                refine lv_iconst (v := 1) hx hb dX12_some2_133 (by decide) ?_
                refine lv_goto (tgt := 138) hx hb dX12_some2_134 (by decide) ?_
                exact B_138 cs 1 h _ _ _ hP hD hS (lv_sub hl [1] rfl)
            · skip
              replace h := (if_pos c_29).symm.trans h
              refine lv_lload_n hx hb dX12_some2_111 rfl (lv_at hl 4 rfl) ?_
              refine lv_lload hx hb dX12_some2_112 (lv_at hl 5 rfl) ?_
              refine W.lcmp hx hb dX12_some2_114 ?_
              refine lv_if_le (tgt := 122) hx hb dX12_some2_115 (by decide) (fun c_31 => ?_) (fun c_31 => ?_)
              · skip
                have c_31 : x3 ≤ x5 := (lg_cmp_le _ _).mp c_31
                replace h := (if_pos c_31).symm.trans h
                refine lv_iconst (v := 0) hx hb dX12_some2_122 (by decide) ?_
                refine lv_goto (tgt := 138) hx hb dX12_some2_123 (by decide) ?_
                exact B_138 cs 0 h _ _ _ hP hD hS (lv_sub hl [1] rfl)
              · skip
                have c_31 : ¬ (x3 ≤ x5) := fun h9 => c_31 ((lg_cmp_le _ _).mpr h9)
                replace h := (if_neg c_31).symm.trans h
                refine lv_iconst (v := 1) hx hb dX12_some2_118 (by decide) ?_
                refine lv_goto (tgt := 138) hx hb dX12_some2_119 (by decide) ?_
                exact B_138 cs 1 h _ _ _ hP hD hS (lv_sub hl [1] rfl)
          · skip
            replace h := (if_pos c_28).symm.trans h
            refine lv_lload_n hx hb dX12_some2_89 rfl (lv_at hl 4 rfl) ?_
            refine lv_lload hx hb dX12_some2_90 (lv_at hl 5 rfl) ?_
            refine W.lcmp hx hb dX12_some2_92 ?_
            refine lv_if_gt (tgt := 100) hx hb dX12_some2_93 (by decide) (fun c_32 => ?_) (fun c_32 => ?_)
            · skip
              have c_32 : x5 < x3 := (lg_cmp_gt _ _).mp c_32
              replace h := (if_pos c_32).symm.trans h
              refine lv_iconst (v := 0) hx hb dX12_some2_100 (by decide) ?_
              refine lv_goto (tgt := 138) hx hb dX12_some2_101 (by decide) ?_
              exact B_138 cs 0 h _ _ _ hP hD hS (lv_sub hl [1] rfl)
            · skip
              have c_32 : ¬ (x5 < x3) := fun h9 => c_32 ((lg_cmp_gt _ _).mpr h9)
              replace h := (if_neg c_32).symm.trans h
              refine lv_iconst (v := 1) hx hb dX12_some2_96 (by decide) ?_
              refine lv_goto (tgt := 138) hx hb dX12_some2_97 (by decide) ?_
              exact B_138 cs 1 h _ _ _ hP hD hS (lv_sub hl [1] rfl)
        · skip
          replace h := (if_pos c_27).symm.trans h
          refine lv_lload_n hx hb dX12_some2_66 rfl (lv_at hl 4 rfl) ?_
          refine lv_lload hx hb dX12_some2_67 (lv_at hl 5 rfl) ?_
          refine W.lcmp hx hb dX12_some2_69 ?_
          refine lv_if_ge (tgt := 77) hx hb dX12_some2_70 (by decide) (fun c_33 => ?_) (fun c_33 => ?_)
          · skip
            have c_33 : x5 ≤ x3 := (lg_cmp_ge _ _).mp c_33
            replace h := (if_pos c_33).symm.trans h
            refine lv_iconst (v := 0) hx hb dX12_some2_77 (by decide) ?_
            refine lv_goto (tgt := 138) hx hb dX12_some2_78 (by decide) ?_
            exact B_138 cs 0 h _ _ _ hP hD hS (lv_sub hl [1] rfl)
          · skip
            have c_33 : ¬ (x5 ≤ x3) := fun h9 => c_33 ((lg_cmp_ge _ _).mpr h9)
            replace h := (if_neg c_33).symm.trans h
            refine lv_iconst (v := 1) hx hb dX12_some2_73 (by decide) ?_
            refine lv_goto (tgt := 138) hx hb dX12_some2_74 (by decide) ?_
            exact B_138 cs 1 h _ _ _ hP hD hS (lv_sub hl [1] rfl)
      · skip
        replace h := (if_pos c_26).symm.trans h
        refine lv_lload_n hx hb dX12_some2_44 rfl (lv_at hl 4 rfl) ?_
        refine lv_lload hx hb dX12_some2_45 (lv_at hl 5 rfl) ?_
        refine W.lcmp hx hb dX12_some2_47 ?_
        refine lv_if_eq (tgt := 55) hx hb dX12_some2_48 (by decide) (fun c_34 => ?_) (fun c_34 => ?_)
        · skip
          have c_34 : x3 = x5 := (lg_cmp_eq _ _).mp c_34
          replace h := (if_pos c_34).symm.trans h
          refine lv_iconst (v := 0) hx hb dX12_some2_55 (by decide) ?_
          refine lv_goto (tgt := 138) hx hb dX12_some2_56 (by decide) ?_
          exact B_138 cs 0 h _ _ _ hP hD hS (lv_sub hl [1] rfl)
        · skip
          have c_34 : ¬ (x3 = x5) := fun h9 => c_34 ((lg_cmp_eq _ _).mpr h9)
          replace h := (if_neg c_34).symm.trans h
          refine lv_iconst (v := 1) hx hb dX12_some2_51 (by decide) ?_
          refine lv_goto (tgt := 138) hx hb dX12_some2_52 (by decide) ?_
          exact B_138 cs 1 h _ _ _ hP hD hS (lv_sub hl [1] rfl)
    · skip
      replace h := (if_pos c_25).symm.trans h
      refine lv_lload_n hx hb dX12_some2_21 rfl (lv_at hl 4 rfl) ?_
      refine lv_lload hx hb dX12_some2_22 (lv_at hl 5 rfl) ?_
      refine W.lcmp hx hb dX12_some2_24 ?_
      refine lv_if_ne (tgt := 32) hx hb dX12_some2_25 (by decide) (fun c_35 => ?_) (fun c_35 => ?_)
      · skip
        have c_35 : ¬ (x3 = x5) := fun h9 => c_35 ((lg_cmp_eq _ _).mpr h9)
        replace h := (if_neg c_35).symm.trans h
        refine lv_iconst (v := 0) hx hb dX12_some2_32 (by decide) ?_
        refine lv_goto (tgt := 138) hx hb dX12_some2_33 (by decide) ?_
        exact B_138 cs 0 h _ _ _ hP hD hS (lv_sub hl [1] rfl)
      · skip
        have c_35 : x3 = x5 := (lg_cmp_eq _ _).mp c_35
        replace h := (if_pos c_35).symm.trans h
        refine lv_iconst (v := 1) hx hb dX12_some2_28 (by decide) ?_
        refine lv_goto (tgt := 138) hx hb dX12_some2_29 (by decide) ?_
        exact B_138 cs 1 h _ _ _ hP hD hS (lv_sub hl [1] rfl)
theorem cw_some2 {R : Room} {s : State} {args : Array Value} {y0 : MethodName} {c0 : ByteArray} {n0 : Nat} {r0 : Option FieldType} (hts : ∀ w ∈ wsOf y0 c0 n0 r0, w.before args s = true) {fr : Nat} (h1 : fr + 1 ≤ R.frames) (h2 : 8 + (9 + 11) + 60 * fr ≤ R.locals) : CallW R s args RX12 RX12 641 yX12_some2 cX12_some2 9 (some .long) (wsOf yX12_some2 cX12_some2 9 (some .long)) ({ frames := fr, cells := 0, slots := 0, locals := 60 * fr } : Room) 0 0 4 := cwV 4 hts (gd_all (in_V kw_2148 kw_2150 kw_117 kw_191 kc_X12_some2)) rfl rfl rfl (by decide +kernel) ⟨h1, h2⟩
theorem dX12_isGrouped_0 : decode cX12_isGrouped 0 = .ok (.aload_n 0, 1) := by decide +kernel
theorem dX12_isGrouped_1 : decode cX12_isGrouped 1 = .ok (.getfield 100, 3) := by decide +kernel
theorem dX12_isGrouped_4 : decode cX12_isGrouped 4 = .ok (.iload_n 1, 1) := by decide +kernel
theorem dX12_isGrouped_5 : decode cX12_isGrouped 5 = .ok (.iaload, 1) := by decide +kernel
theorem dX12_isGrouped_6 : decode cX12_isGrouped 6 = .ok (.iconst (-1), 1) := by decide +kernel
theorem dX12_isGrouped_7 : decode cX12_isGrouped 7 = .ok (.if_icmp .ne 12, 3) := by decide +kernel
theorem dX12_isGrouped_10 : decode cX12_isGrouped 10 = .ok (.aload_n 0, 1) := by decide +kernel
theorem dX12_isGrouped_11 : decode cX12_isGrouped 11 = .ok (.getfield 106, 3) := by decide +kernel
theorem dX12_isGrouped_14 : decode cX12_isGrouped 14 = .ok (.iload_n 1, 1) := by decide +kernel
theorem dX12_isGrouped_15 : decode cX12_isGrouped 15 = .ok (.iaload, 1) := by decide +kernel
theorem dX12_isGrouped_16 : decode cX12_isGrouped 16 = .ok (.ifCond .le 7, 3) := by decide +kernel
theorem dX12_isGrouped_19 : decode cX12_isGrouped 19 = .ok (.iconst 1, 1) := by decide +kernel
theorem dX12_isGrouped_20 : decode cX12_isGrouped 20 = .ok (.goto 4, 3) := by decide +kernel
theorem dX12_isGrouped_23 : decode cX12_isGrouped 23 = .ok (.iconst 0, 1) := by decide +kernel
theorem dX12_isGrouped_24 : decode cX12_isGrouped 24 = .ok (.ireturn, 1) := by decide +kernel
def m_isGrouped_b24 (F : Nat) (cs : RS) (y0 : Int32) : Option Int32 := Option.bind (ckZ y0) fun _ => some y0
def m_isGrouped_b19 (F : Nat) (cs : RS) : Option Int32 := m_isGrouped_b24 F cs 1
def m_isGrouped (F : Nat) (cs : RS) (x1 : Int32) : Option Int32 := Option.bind (rdI (cs.2.2.1 40) 60 x1) fun v_2 => if v_2 = (-1) then (Option.bind (rdI (cs.2.2.1 42) 60 x1) fun v_4 => if v_4 ≤ 0 then (m_isGrouped_b24 F cs 0) else (m_isGrouped_b19 F cs )) else (m_isGrouped_b19 F cs )
set_option maxHeartbeats 4000000 in
set_option maxRecDepth 100000 in
theorem s_isGrouped (l : Launch) (dC : Nat → ClassId) (dI : Nat → Nat → Nat) (cB cI cJ cZ : ClassId) (h0 : Nat) (a : Nat → Nat) (K V : Nat → Nat) (fz : Value) (F : Nat) (cs : RS) (x1 : Int32) (r9 : Int32) (hf : m_isGrouped F cs x1 = some r9) : okI l dC dI cB cI cJ cZ h0 a K V fz yX12_isGrouped (wsOf yX12_isGrouped cX12_isGrouped 2 (some .boolean)) (0) [.ref h0, .int x1] cs cs r9 := by
  intro sz
  refine Met.ofW (cc := cX12_isGrouped) (maxL := 2) (ret := (some .boolean)) (by decide) rfl ?_
  intro p e s m args below meth c s₁ B hml hv
  obtain ⟨rfl, hsz, hP, hK, hD0, hZ⟩ := hv
  have hx := B.exec
  have hb := B.bytes
  have hr := B.returns
  have hts := atoms_spec (ws := (wsOf yX12_isGrouped cX12_isGrouped 2 (some .boolean))) B.pre
  have hown : s.vm.findClass RX12 = some m.cls := findClass_of_methodNamed B.named
  have hlocks := B.notSynchronized
  subst hsz
  have hD := hD0.self (sz := s.heap.size)
  generalize hAe : va_A (mW cB cI cJ cZ h0 a cs) s.heap.size = A at hD hZ ⊢
  have hA : ∀ q : Nat, s.heap.size ≤ q → A q := fun q h => by rw [← hAe]; exact Or.inr h
  have hS : va_S A s.heap s.heap [] := va_S.rf
  have hl := lv_entry ([.ref h0, .int x1]) (n := 2) (Nat.le_of_ble_eq_true rfl)
  rw [lg_entry_eq]
  generalize (lg_sl ([.ref h0, .int x1]) ++ List.replicate (2 - (lg_sl ([.ref h0, .int x1])).length) Slot.unset).toArray = ls at hl ⊢
  have hl : lv_has ls 2 [(0, .ref h0), (1, .int x1)] := hl
  have B_24 : ∀ (y0 : Int32), m_isGrouped_b24 F cs y0 = some r9 → ∀ (H : Heap) (locs : List Loc) (ls : Array Slot), va_P (dC, dI) vwCl (mW cB cI cJ cZ h0 a cs) H → va_D A (mW cB cI cJ cZ h0 a cs) → va_S A s.heap H locs → lv_has ls 2 [] → W p l e (headSpec (wsOf yX12_isGrouped cX12_isGrouped 2 (some .boolean)) ({ frames := 0, cells := 0, slots := 0, locals := 60 * (0) } : Room)).room s m ([.ref h0, .int x1] : List Value).toArray below meth c H locs 0 0 (MQ below (va_Qi (fun (x : Int32) (_ : Unit) => x = r9) (fun _ t_ => va_P (dC, dI) vwCl (mW cB cI cJ cZ h0 a cs) t_.heap ∧ va_D A (mW cB cI cJ cZ h0 a cs)) A) ([.ref h0, .int x1] : List Value).toArray s 0 0 A) (F0 m 24 ls [.int y0]) := by
    intro y0 h H locs ls hP hD hS hl
    unfold m_isGrouped_b24 at h
    obtain ⟨w_1, hw_1, h⟩ := ob h
    have e2 := Option.some.inj h
    exact W.zret (v := y0) hx hb hr (nzN (ckZ_some hw_1)) (fun t_ ht hW => ⟨⟨y0, (), rfl, e2, by rw [ht]; exact hP, hD⟩, hS.F ht⟩) hS.2.2 dX12_isGrouped_24
  have B_19 : m_isGrouped_b19 F cs = some r9 → ∀ (H : Heap) (locs : List Loc) (ls : Array Slot), va_P (dC, dI) vwCl (mW cB cI cJ cZ h0 a cs) H → va_D A (mW cB cI cJ cZ h0 a cs) → va_S A s.heap H locs → lv_has ls 2 [] → W p l e (headSpec (wsOf yX12_isGrouped cX12_isGrouped 2 (some .boolean)) ({ frames := 0, cells := 0, slots := 0, locals := 60 * (0) } : Room)).room s m ([.ref h0, .int x1] : List Value).toArray below meth c H locs 0 0 (MQ below (va_Qi (fun (x : Int32) (_ : Unit) => x = r9) (fun _ t_ => va_P (dC, dI) vwCl (mW cB cI cJ cZ h0 a cs) t_.heap ∧ va_D A (mW cB cI cJ cZ h0 a cs)) A) ([.ref h0, .int x1] : List Value).toArray s 0 0 A) (F0 m 19 ls []) := by
    intro  h H locs ls hP hD hS hl
    unfold m_isGrouped_b19 at h
    refine lv_iconst (v := 1) hx hb dX12_isGrouped_19 (by decide) ?_
    refine lv_goto (tgt := 24) hx hb dX12_isGrouped_20 (by decide) ?_
    exact B_24 1 h _ _ _ hP hD hS (lv_sub hl [] rfl)
  have h := hf
  unfold m_isGrouped at h
  refine lv_aload_n hx hb dX12_isGrouped_0 rfl (lv_at hl 0 rfl) ?_
  refine fg_40 hx hb hts hown hK hP dX12_isGrouped_1 ?_
  refine lv_iload_n hx hb dX12_isGrouped_4 rfl (lv_at hl 1 rfl) ?_
  obtain ⟨v_2, hv_2, h⟩ := ob h
  refine ag_40 hx hb hK hP hv_2 dX12_isGrouped_5 ?_
  refine lv_iconst (v := (-1)) hx hb dX12_isGrouped_6 (by decide) ?_
  refine lv_icmp_ne (tgt := 19) hx hb dX12_isGrouped_7 (by decide) (fun c_3 => ?_) (fun c_3 => ?_)
  · skip
    replace h := (if_neg c_3).symm.trans h
    exact B_19  h _ _ _ hP hD hS (lv_sub hl [] rfl)
  · skip
    replace h := (if_pos c_3).symm.trans h
    refine lv_aload_n hx hb dX12_isGrouped_10 rfl (lv_at hl 0 rfl) ?_
    refine fg_42 hx hb hts hown hK hP dX12_isGrouped_11 ?_
    refine lv_iload_n hx hb dX12_isGrouped_14 rfl (lv_at hl 1 rfl) ?_
    obtain ⟨v_4, hv_4, h⟩ := ob h
    refine ag_42 hx hb hK hP hv_4 dX12_isGrouped_15 ?_
    refine lv_if_le (tgt := 23) hx hb dX12_isGrouped_16 (by decide) (fun c_5 => ?_) (fun c_5 => ?_)
    · skip
      replace h := (if_pos c_5).symm.trans h
      refine lv_iconst (v := 0) hx hb dX12_isGrouped_23 (by decide) ?_
      exact B_24 0 h _ _ _ hP hD hS (lv_sub hl [] rfl)
    · skip
      replace h := (if_neg c_5).symm.trans h
      exact B_19  h _ _ _ hP hD hS (lv_sub hl [] rfl)
theorem cw_isGrouped {R : Room} {s : State} {args : Array Value} {y0 : MethodName} {c0 : ByteArray} {n0 : Nat} {r0 : Option FieldType} (hts : ∀ w ∈ wsOf y0 c0 n0 r0, w.before args s = true) {fr : Nat} (h1 : fr + 1 ≤ R.frames) (h2 : 8 + (2 + 11) + 60 * fr ≤ R.locals) : CallW R s args RX12 RX12 571 yX12_isGrouped cX12_isGrouped 2 (some .boolean) (wsOf yX12_isGrouped cX12_isGrouped 2 (some .boolean)) ({ frames := fr, cells := 0, slots := 0, locals := 60 * fr } : Room) 0 0 1 := cwV 1 hts (gd_all (in_V kw_2157 kw_2159 kw_119 kw_191 kc_X12_isGrouped)) rfl rfl rfl (by decide +kernel) ⟨h1, h2⟩
theorem dX12_compare_0 : decode cX12_compare 0 = .ok (.iload_n 2, 1) := by decide +kernel
theorem dX12_compare_1 : decode cX12_compare 1 = .ok (.ifCond .ne 8, 3) := by decide +kernel
theorem dX12_compare_4 : decode cX12_compare 4 = .ok (.iload 5, 2) := by decide +kernel
theorem dX12_compare_6 : decode cX12_compare 6 = .ok (.ifCond .eq 22, 3) := by decide +kernel
theorem dX12_compare_9 : decode cX12_compare 9 = .ok (.iload_n 2, 1) := by decide +kernel
theorem dX12_compare_10 : decode cX12_compare 10 = .ok (.ifCond .eq 16, 3) := by decide +kernel
theorem dX12_compare_13 : decode cX12_compare 13 = .ok (.iload 5, 2) := by decide +kernel
theorem dX12_compare_15 : decode cX12_compare 15 = .ok (.ifCond .eq 7, 3) := by decide +kernel
theorem dX12_compare_18 : decode cX12_compare 18 = .ok (.iconst 0, 1) := by decide +kernel
theorem dX12_compare_19 : decode cX12_compare 19 = .ok (.goto 8, 3) := by decide +kernel
theorem dX12_compare_22 : decode cX12_compare 22 = .ok (.iconst (-1), 1) := by decide +kernel
theorem dX12_compare_23 : decode cX12_compare 23 = .ok (.goto 4, 3) := by decide +kernel
theorem dX12_compare_26 : decode cX12_compare 26 = .ok (.iconst 1, 1) := by decide +kernel
theorem dX12_compare_27 : decode cX12_compare 27 = .ok (.ireturn, 1) := by decide +kernel
theorem dX12_compare_28 : decode cX12_compare 28 = .ok (.lload_n 0, 1) := by decide +kernel
theorem dX12_compare_29 : decode cX12_compare 29 = .ok (.lload_n 3, 1) := by decide +kernel
theorem dX12_compare_30 : decode cX12_compare 30 = .ok (.lcmp, 1) := by decide +kernel
theorem dX12_compare_31 : decode cX12_compare 31 = .ok (.ifCond .ge 7, 3) := by decide +kernel
theorem dX12_compare_34 : decode cX12_compare 34 = .ok (.iconst (-1), 1) := by decide +kernel
theorem dX12_compare_35 : decode cX12_compare 35 = .ok (.goto 14, 3) := by decide +kernel
theorem dX12_compare_38 : decode cX12_compare 38 = .ok (.lload_n 0, 1) := by decide +kernel
theorem dX12_compare_39 : decode cX12_compare 39 = .ok (.lload_n 3, 1) := by decide +kernel
theorem dX12_compare_40 : decode cX12_compare 40 = .ok (.lcmp, 1) := by decide +kernel
theorem dX12_compare_41 : decode cX12_compare 41 = .ok (.ifCond .le 7, 3) := by decide +kernel
theorem dX12_compare_44 : decode cX12_compare 44 = .ok (.iconst 1, 1) := by decide +kernel
theorem dX12_compare_45 : decode cX12_compare 45 = .ok (.goto 4, 3) := by decide +kernel
theorem dX12_compare_48 : decode cX12_compare 48 = .ok (.iconst 0, 1) := by decide +kernel
theorem dX12_compare_49 : decode cX12_compare 49 = .ok (.ireturn, 1) := by decide +kernel
def m_compare_b27 (F : Nat) (cs : RS) (y0 : Int32) : Option Int32 := some y0
def m_compare_b9 (F : Nat) (cs : RS) (u2 : Int32) (u5 : Int32) : Option Int32 := if u2 = 0 then (m_compare_b27 F cs 1) else (if u5 = 0 then (m_compare_b27 F cs (-1)) else (m_compare_b27 F cs 0))
def m_compare_b49 (F : Nat) (cs : RS) (y0 : Int32) : Option Int32 := some y0
def m_compare (F : Nat) (cs : RS) (x0 : Int64) (x2 : Int32) (x3 : Int64) (x5 : Int32) : Option Int32 := if x2 = 0 then (if x5 = 0 then (if x3 ≤ x0 then (if x0 ≤ x3 then (m_compare_b49 F cs 0) else (m_compare_b49 F cs 1)) else (m_compare_b49 F cs (-1))) else (m_compare_b9 F cs x2 x5)) else (m_compare_b9 F cs x2 x5)
set_option maxHeartbeats 4000000 in
set_option maxRecDepth 100000 in
theorem s_compare (l : Launch) (dC : Nat → ClassId) (dI : Nat → Nat → Nat) (cB cI cJ cZ : ClassId) (h0 : Nat) (a : Nat → Nat) (K V : Nat → Nat) (fz : Value) (F : Nat) (cs : RS) (x0 : Int64) (x2 : Int32) (x3 : Int64) (x5 : Int32) (r9 : Int32) (hf : m_compare F cs x0 x2 x3 x5 = some r9) : okI l dC dI cB cI cJ cZ h0 a K V fz yX12_compare (wsOf yX12_compare cX12_compare 6 (some .int)) (0) [.long x0, .int x2, .long x3, .int x5] cs cs r9 := by
  intro sz
  refine Met.ofW (cc := cX12_compare) (maxL := 6) (ret := (some .int)) (by decide) rfl ?_
  intro p e s m args below meth c s₁ B hml hv
  obtain ⟨rfl, hsz, hP, hK, hD0, hZ⟩ := hv
  have hx := B.exec
  have hb := B.bytes
  have hr := B.returns
  have hts := atoms_spec (ws := (wsOf yX12_compare cX12_compare 6 (some .int))) B.pre
  have hown : s.vm.findClass RX12 = some m.cls := findClass_of_methodNamed B.named
  have hlocks := B.notSynchronized
  subst hsz
  have hD := hD0.self (sz := s.heap.size)
  generalize hAe : va_A (mW cB cI cJ cZ h0 a cs) s.heap.size = A at hD hZ ⊢
  have hA : ∀ q : Nat, s.heap.size ≤ q → A q := fun q h => by rw [← hAe]; exact Or.inr h
  have hS : va_S A s.heap s.heap [] := va_S.rf
  have hl := lv_entry ([.long x0, .int x2, .long x3, .int x5]) (n := 6) (Nat.le_of_ble_eq_true rfl)
  rw [lg_entry_eq]
  generalize (lg_sl ([.long x0, .int x2, .long x3, .int x5]) ++ List.replicate (6 - (lg_sl ([.long x0, .int x2, .long x3, .int x5])).length) Slot.unset).toArray = ls at hl ⊢
  have hl : lv_has ls 6 [(0, .long x0), (2, .int x2), (3, .long x3), (5, .int x5)] := hl
  have B_27 : ∀ (y0 : Int32), m_compare_b27 F cs y0 = some r9 → ∀ (H : Heap) (locs : List Loc) (ls : Array Slot), va_P (dC, dI) vwCl (mW cB cI cJ cZ h0 a cs) H → va_D A (mW cB cI cJ cZ h0 a cs) → va_S A s.heap H locs → lv_has ls 6 [] → W p l e (headSpec (wsOf yX12_compare cX12_compare 6 (some .int)) ({ frames := 0, cells := 0, slots := 0, locals := 60 * (0) } : Room)).room s m ([.long x0, .int x2, .long x3, .int x5] : List Value).toArray below meth c H locs 0 0 (MQ below (va_Qi (fun (x : Int32) (_ : Unit) => x = r9) (fun _ t_ => va_P (dC, dI) vwCl (mW cB cI cJ cZ h0 a cs) t_.heap ∧ va_D A (mW cB cI cJ cZ h0 a cs)) A) ([.long x0, .int x2, .long x3, .int x5] : List Value).toArray s 0 0 A) (F0 m 27 ls [.int y0]) := by
    intro y0 h H locs ls hP hD hS hl
    unfold m_compare_b27 at h
    have e2 := Option.some.inj h
    exact W.iret (v := y0) hx hb hr (fun t_ ht hW => ⟨⟨y0, (), rfl, e2, by rw [ht]; exact hP, hD⟩, hS.F ht⟩) hS.2.2 dX12_compare_27
  have B_9 : ∀ (u2 : Int32) (u5 : Int32), m_compare_b9 F cs u2 u5 = some r9 → ∀ (H : Heap) (locs : List Loc) (ls : Array Slot), va_P (dC, dI) vwCl (mW cB cI cJ cZ h0 a cs) H → va_D A (mW cB cI cJ cZ h0 a cs) → va_S A s.heap H locs → lv_has ls 6 [(2, .int u2), (5, .int u5)] → W p l e (headSpec (wsOf yX12_compare cX12_compare 6 (some .int)) ({ frames := 0, cells := 0, slots := 0, locals := 60 * (0) } : Room)).room s m ([.long x0, .int x2, .long x3, .int x5] : List Value).toArray below meth c H locs 0 0 (MQ below (va_Qi (fun (x : Int32) (_ : Unit) => x = r9) (fun _ t_ => va_P (dC, dI) vwCl (mW cB cI cJ cZ h0 a cs) t_.heap ∧ va_D A (mW cB cI cJ cZ h0 a cs)) A) ([.long x0, .int x2, .long x3, .int x5] : List Value).toArray s 0 0 A) (F0 m 9 ls []) := by
    intro u2 u5 h H locs ls hP hD hS hl
    unfold m_compare_b9 at h
    refine lv_iload_n hx hb dX12_compare_9 rfl (lv_at hl 0 rfl) ?_
    refine lv_if_eq (tgt := 26) hx hb dX12_compare_10 (by decide) (fun c_1 => ?_) (fun c_1 => ?_)
    · skip
      replace h := (if_pos c_1).symm.trans h
      refine lv_iconst (v := 1) hx hb dX12_compare_26 (by decide) ?_
      exact B_27 1 h _ _ _ hP hD hS (lv_sub hl [] rfl)
    · skip
      replace h := (if_neg c_1).symm.trans h
      refine lv_iload hx hb dX12_compare_13 (lv_at hl 1 rfl) ?_
      refine lv_if_eq (tgt := 22) hx hb dX12_compare_15 (by decide) (fun c_2 => ?_) (fun c_2 => ?_)
      · skip
        replace h := (if_pos c_2).symm.trans h
        refine lv_iconst (v := (-1)) hx hb dX12_compare_22 (by decide) ?_
        refine lv_goto (tgt := 27) hx hb dX12_compare_23 (by decide) ?_
        exact B_27 (-1) h _ _ _ hP hD hS (lv_sub hl [] rfl)
      · skip
        replace h := (if_neg c_2).symm.trans h
        refine lv_iconst (v := 0) hx hb dX12_compare_18 (by decide) ?_
        refine lv_goto (tgt := 27) hx hb dX12_compare_19 (by decide) ?_
        exact B_27 0 h _ _ _ hP hD hS (lv_sub hl [] rfl)
  have B_49 : ∀ (y0 : Int32), m_compare_b49 F cs y0 = some r9 → ∀ (H : Heap) (locs : List Loc) (ls : Array Slot), va_P (dC, dI) vwCl (mW cB cI cJ cZ h0 a cs) H → va_D A (mW cB cI cJ cZ h0 a cs) → va_S A s.heap H locs → lv_has ls 6 [] → W p l e (headSpec (wsOf yX12_compare cX12_compare 6 (some .int)) ({ frames := 0, cells := 0, slots := 0, locals := 60 * (0) } : Room)).room s m ([.long x0, .int x2, .long x3, .int x5] : List Value).toArray below meth c H locs 0 0 (MQ below (va_Qi (fun (x : Int32) (_ : Unit) => x = r9) (fun _ t_ => va_P (dC, dI) vwCl (mW cB cI cJ cZ h0 a cs) t_.heap ∧ va_D A (mW cB cI cJ cZ h0 a cs)) A) ([.long x0, .int x2, .long x3, .int x5] : List Value).toArray s 0 0 A) (F0 m 49 ls [.int y0]) := by
    intro y0 h H locs ls hP hD hS hl
    unfold m_compare_b49 at h
    have e2 := Option.some.inj h
    exact W.iret (v := y0) hx hb hr (fun t_ ht hW => ⟨⟨y0, (), rfl, e2, by rw [ht]; exact hP, hD⟩, hS.F ht⟩) hS.2.2 dX12_compare_49
  have h := hf
  unfold m_compare at h
  refine lv_iload_n hx hb dX12_compare_0 rfl (lv_at hl 1 rfl) ?_
  refine lv_if_ne (tgt := 9) hx hb dX12_compare_1 (by decide) (fun c_3 => ?_) (fun c_3 => ?_)
  · skip
    replace h := (if_neg c_3).symm.trans h
    exact B_9 x2 x5 h _ _ _ hP hD hS (lv_sub hl [1, 3] rfl)
  · skip
    replace h := (if_pos c_3).symm.trans h
    refine lv_iload hx hb dX12_compare_4 (lv_at hl 3 rfl) ?_
    refine lv_if_eq (tgt := 28) hx hb dX12_compare_6 (by decide) (fun c_4 => ?_) (fun c_4 => ?_)
    · skip
      replace h := (if_pos c_4).symm.trans h
      refine lv_lload_n hx hb dX12_compare_28 rfl (lv_at hl 0 rfl) ?_
      refine lv_lload_n hx hb dX12_compare_29 rfl (lv_at hl 2 rfl) ?_
      refine W.lcmp hx hb dX12_compare_30 ?_
      refine lv_if_ge (tgt := 38) hx hb dX12_compare_31 (by decide) (fun c_5 => ?_) (fun c_5 => ?_)
      · skip
        have c_5 : x3 ≤ x0 := (lg_cmp_ge _ _).mp c_5
        replace h := (if_pos c_5).symm.trans h
        refine lv_lload_n hx hb dX12_compare_38 rfl (lv_at hl 0 rfl) ?_
        refine lv_lload_n hx hb dX12_compare_39 rfl (lv_at hl 2 rfl) ?_
        refine W.lcmp hx hb dX12_compare_40 ?_
        refine lv_if_le (tgt := 48) hx hb dX12_compare_41 (by decide) (fun c_6 => ?_) (fun c_6 => ?_)
        · skip
          have c_6 : x0 ≤ x3 := (lg_cmp_le _ _).mp c_6
          replace h := (if_pos c_6).symm.trans h
          refine lv_iconst (v := 0) hx hb dX12_compare_48 (by decide) ?_
          exact B_49 0 h _ _ _ hP hD hS (lv_sub hl [] rfl)
        · skip
          have c_6 : ¬ (x0 ≤ x3) := fun h9 => c_6 ((lg_cmp_le _ _).mpr h9)
          replace h := (if_neg c_6).symm.trans h
          refine lv_iconst (v := 1) hx hb dX12_compare_44 (by decide) ?_
          refine lv_goto (tgt := 49) hx hb dX12_compare_45 (by decide) ?_
          exact B_49 1 h _ _ _ hP hD hS (lv_sub hl [] rfl)
      · skip
        have c_5 : ¬ (x3 ≤ x0) := fun h9 => c_5 ((lg_cmp_ge _ _).mpr h9)
        replace h := (if_neg c_5).symm.trans h
        refine lv_iconst (v := (-1)) hx hb dX12_compare_34 (by decide) ?_
        refine lv_goto (tgt := 49) hx hb dX12_compare_35 (by decide) ?_
        exact B_49 (-1) h _ _ _ hP hD hS (lv_sub hl [] rfl)
    · skip
      replace h := (if_neg c_4).symm.trans h
      exact B_9 x2 x5 h _ _ _ hP hD hS (lv_sub hl [1, 3] rfl)
theorem cw_compare {R : Room} {s : State} {args : Array Value} {y0 : MethodName} {c0 : ByteArray} {n0 : Nat} {r0 : Option FieldType} (hts : ∀ w ∈ wsOf y0 c0 n0 r0, w.before args s = true) {fr : Nat} (h1 : fr + 1 ≤ R.frames) (h2 : 8 + (6 + 11) + 60 * fr ≤ R.locals) : CallB R s args RX12 596 yX12_compare cX12_compare 6 (some .int) (wsOf yX12_compare cX12_compare 6 (some .int)) ({ frames := fr, cells := 0, slots := 0, locals := 60 * fr } : Room) 0 0 4 ∧ (Cond.static yX12_compare).before args s = true := ⟨callB_of 4 hts (gd_all (in_I kc_X12_compare)) rfl rfl rfl (hts _ (List.mem_cons_of_mem _ kw_191)) (hts _ (List.mem_cons_of_mem _ kw_2169)) (by decide +kernel) ⟨h1, h2⟩, hts _ (List.mem_cons_of_mem _ kw_2170)⟩
theorem dX12_compareRows_0 : decode cX12_compareRows 0 = .ok (.iconst 0, 1) := by decide +kernel
theorem dX12_compareRows_1 : decode cX12_compareRows 1 = .ok (.istore 4, 2) := by decide +kernel
theorem dX12_compareRows_3 : decode cX12_compareRows 3 = .ok (.iload 4, 2) := by decide +kernel
theorem dX12_compareRows_5 : decode cX12_compareRows 5 = .ok (.iload_n 3, 1) := by decide +kernel
theorem dX12_compareRows_6 : decode cX12_compareRows 6 = .ok (.if_icmp .ge 58, 3) := by decide +kernel
theorem dX12_compareRows_9 : decode cX12_compareRows 9 = .ok (.aload_n 0, 1) := by decide +kernel
theorem dX12_compareRows_10 : decode cX12_compareRows 10 = .ok (.getfield 194, 3) := by decide +kernel
theorem dX12_compareRows_13 : decode cX12_compareRows 13 = .ok (.iload_n 1, 1) := by decide +kernel
theorem dX12_compareRows_14 : decode cX12_compareRows 14 = .ok (.iload 4, 2) := by decide +kernel
theorem dX12_compareRows_16 : decode cX12_compareRows 16 = .ok (.iadd, 1) := by decide +kernel
theorem dX12_compareRows_17 : decode cX12_compareRows 17 = .ok (.laload, 1) := by decide +kernel
theorem dX12_compareRows_18 : decode cX12_compareRows 18 = .ok (.aload_n 0, 1) := by decide +kernel
theorem dX12_compareRows_19 : decode cX12_compareRows 19 = .ok (.getfield 197, 3) := by decide +kernel
theorem dX12_compareRows_22 : decode cX12_compareRows 22 = .ok (.iload_n 1, 1) := by decide +kernel
theorem dX12_compareRows_23 : decode cX12_compareRows 23 = .ok (.iload 4, 2) := by decide +kernel
theorem dX12_compareRows_25 : decode cX12_compareRows 25 = .ok (.iadd, 1) := by decide +kernel
theorem dX12_compareRows_26 : decode cX12_compareRows 26 = .ok (.baload, 1) := by decide +kernel
theorem dX12_compareRows_27 : decode cX12_compareRows 27 = .ok (.aload_n 0, 1) := by decide +kernel
theorem dX12_compareRows_28 : decode cX12_compareRows 28 = .ok (.getfield 194, 3) := by decide +kernel
theorem dX12_compareRows_31 : decode cX12_compareRows 31 = .ok (.iload_n 2, 1) := by decide +kernel
theorem dX12_compareRows_32 : decode cX12_compareRows 32 = .ok (.iload 4, 2) := by decide +kernel
theorem dX12_compareRows_34 : decode cX12_compareRows 34 = .ok (.iadd, 1) := by decide +kernel
theorem dX12_compareRows_35 : decode cX12_compareRows 35 = .ok (.laload, 1) := by decide +kernel
theorem dX12_compareRows_36 : decode cX12_compareRows 36 = .ok (.aload_n 0, 1) := by decide +kernel
theorem dX12_compareRows_37 : decode cX12_compareRows 37 = .ok (.getfield 197, 3) := by decide +kernel
theorem dX12_compareRows_40 : decode cX12_compareRows 40 = .ok (.iload_n 2, 1) := by decide +kernel
theorem dX12_compareRows_41 : decode cX12_compareRows 41 = .ok (.iload 4, 2) := by decide +kernel
theorem dX12_compareRows_43 : decode cX12_compareRows 43 = .ok (.iadd, 1) := by decide +kernel
theorem dX12_compareRows_44 : decode cX12_compareRows 44 = .ok (.baload, 1) := by decide +kernel
theorem dX12_compareRows_45 : decode cX12_compareRows 45 = .ok (.invokestatic 596, 3) := by decide +kernel
theorem dX12_compareRows_48 : decode cX12_compareRows 48 = .ok (.istore 5, 2) := by decide +kernel
theorem dX12_compareRows_50 : decode cX12_compareRows 50 = .ok (.iload 5, 2) := by decide +kernel
theorem dX12_compareRows_52 : decode cX12_compareRows 52 = .ok (.ifCond .eq 6, 3) := by decide +kernel
theorem dX12_compareRows_55 : decode cX12_compareRows 55 = .ok (.iload 5, 2) := by decide +kernel
theorem dX12_compareRows_57 : decode cX12_compareRows 57 = .ok (.ireturn, 1) := by decide +kernel
theorem dX12_compareRows_58 : decode cX12_compareRows 58 = .ok (.iinc 4 1, 3) := by decide +kernel
theorem dX12_compareRows_61 : decode cX12_compareRows 61 = .ok (.goto (-58), 3) := by decide +kernel
theorem dX12_compareRows_64 : decode cX12_compareRows 64 = .ok (.iconst 0, 1) := by decide +kernel
theorem dX12_compareRows_65 : decode cX12_compareRows 65 = .ok (.ireturn, 1) := by decide +kernel
def m_compareRows_L3 (F : Nat) (cs : RS) : Nat → Int32 → Int32 → Int32 → Int32 → Option Int32
  | 0, _, _, _, _ => none
  | lf_3 + 1, u1, u2, u3, u4 => if u3 ≤ u4 then (some 0) else (Option.bind (rdL (cs.2.2.2 85) 400000 (u1 + u4)) fun v_2 => Option.bind (rdI (cs.2.2.1 86) 400000 (u1 + u4)) fun v_3 => Option.bind (rdL (cs.2.2.2 85) 400000 (u2 + u4)) fun v_4 => Option.bind (rdI (cs.2.2.1 86) 400000 (u2 + u4)) fun v_5 => Option.bind (m_compare F cs v_2 v_3 v_4 v_5) fun v_6 => if v_6 = 0 then ((m_compareRows_L3 F cs lf_3) u1 u2 u3 (u4 + 1)) else (some v_6))
def m_compareRows (F : Nat) (cs : RS) (x1 : Int32) (x2 : Int32) (x3 : Int32) : Option Int32 := m_compareRows_L3 F cs F x1 x2 x3 0
set_option maxHeartbeats 4000000 in
set_option maxRecDepth 100000 in
theorem s_compareRows (l : Launch) (dC : Nat → ClassId) (dI : Nat → Nat → Nat) (cB cI cJ cZ : ClassId) (h0 : Nat) (a : Nat → Nat) (K V : Nat → Nat) (fz : Value) (F : Nat) (cs : RS) (x1 : Int32) (x2 : Int32) (x3 : Int32) (r9 : Int32) (hf : m_compareRows F cs x1 x2 x3 = some r9) : okI l dC dI cB cI cJ cZ h0 a K V fz yX12_compareRows (wsOf yX12_compareRows cX12_compareRows 6 (some .int)) (1) [.ref h0, .int x1, .int x2, .int x3] cs cs r9 := by
  intro sz
  refine Met.ofW (cc := cX12_compareRows) (maxL := 6) (ret := (some .int)) (by decide) rfl ?_
  intro p e s m args below meth c s₁ B hml hv
  obtain ⟨rfl, hsz, hP, hK, hD0, hZ⟩ := hv
  have hx := B.exec
  have hb := B.bytes
  have hr := B.returns
  have hts := atoms_spec (ws := (wsOf yX12_compareRows cX12_compareRows 6 (some .int))) B.pre
  have hown : s.vm.findClass RX12 = some m.cls := findClass_of_methodNamed B.named
  have hlocks := B.notSynchronized
  subst hsz
  have hD := hD0.self (sz := s.heap.size)
  generalize hAe : va_A (mW cB cI cJ cZ h0 a cs) s.heap.size = A at hD hZ ⊢
  have hA : ∀ q : Nat, s.heap.size ≤ q → A q := fun q h => by rw [← hAe]; exact Or.inr h
  have hS : va_S A s.heap s.heap [] := va_S.rf
  have hl := lv_entry ([.ref h0, .int x1, .int x2, .int x3]) (n := 6) (Nat.le_of_ble_eq_true rfl)
  rw [lg_entry_eq]
  generalize (lg_sl ([.ref h0, .int x1, .int x2, .int x3]) ++ List.replicate (6 - (lg_sl ([.ref h0, .int x1, .int x2, .int x3])).length) Slot.unset).toArray = ls at hl ⊢
  have hl : lv_has ls 6 [(0, .ref h0), (1, .int x1), (2, .int x2), (3, .int x3)] := hl
  have L_3 : ∀ (lf_3 : Nat), ∀ (u1 : Int32) (u2 : Int32) (u3 : Int32) (u4 : Int32), m_compareRows_L3 F cs lf_3 u1 u2 u3 u4 = some r9 → ∀ (H : Heap) (locs : List Loc) (ls : Array Slot), va_P (dC, dI) vwCl (mW cB cI cJ cZ h0 a cs) H → va_D A (mW cB cI cJ cZ h0 a cs) → va_S A s.heap H locs → lv_has ls 6 [(0, .ref h0), (1, .int u1), (2, .int u2), (3, .int u3), (4, .int u4)] → W p l e (headSpec (wsOf yX12_compareRows cX12_compareRows 6 (some .int)) ({ frames := 1, cells := 0, slots := 0, locals := 60 * (1) } : Room)).room s m ([.ref h0, .int x1, .int x2, .int x3] : List Value).toArray below meth c H locs 0 0 (MQ below (va_Qi (fun (x : Int32) (_ : Unit) => x = r9) (fun _ t_ => va_P (dC, dI) vwCl (mW cB cI cJ cZ h0 a cs) t_.heap ∧ va_D A (mW cB cI cJ cZ h0 a cs)) A) ([.ref h0, .int x1, .int x2, .int x3] : List Value).toArray s 0 0 A) (F0 m 3 ls []) := by
    intro lf_3
    induction lf_3 with
    | zero => intro u1 u2 u3 u4 h; cases (show (none : Option Int32) = _ from h)
    | succ lf_3 ih_3 =>
      intro u1 u2 u3 u4 h H locs ls hP hD hS hl
      rw [m_compareRows_L3] at h
      refine lv_iload hx hb dX12_compareRows_3 (lv_at hl 4 rfl) ?_
      refine lv_iload_n hx hb dX12_compareRows_5 rfl (lv_at hl 3 rfl) ?_
      refine lv_icmp_ge (tgt := 64) hx hb dX12_compareRows_6 (by decide) (fun c_1 => ?_) (fun c_1 => ?_)
      · skip
        replace h := (if_pos c_1).symm.trans h
        refine lv_iconst (v := 0) hx hb dX12_compareRows_64 (by decide) ?_
        have e2 := Option.some.inj h
        exact W.iret (v := 0) hx hb hr (fun t_ ht hW => ⟨⟨0, (), rfl, e2, by rw [ht]; exact hP, hD⟩, hS.F ht⟩) hS.2.2 dX12_compareRows_65
      · skip
        replace h := (if_neg c_1).symm.trans h
        refine lv_aload_n hx hb dX12_compareRows_9 rfl (lv_at hl 0 rfl) ?_
        refine fg_85 hx hb hts hown hK hP dX12_compareRows_10 ?_
        refine lv_iload_n hx hb dX12_compareRows_13 rfl (lv_at hl 1 rfl) ?_
        refine lv_iload hx hb dX12_compareRows_14 (lv_at hl 4 rfl) ?_
        refine lv_iadd hx hb dX12_compareRows_16 ?_
        obtain ⟨v_2, hv_2, h⟩ := ob h
        refine ag_85 hx hb hK hP hv_2 dX12_compareRows_17 ?_
        refine lv_aload_n hx hb dX12_compareRows_18 rfl (lv_at hl 0 rfl) ?_
        refine fg_86 hx hb hts hown hK hP dX12_compareRows_19 ?_
        refine lv_iload_n hx hb dX12_compareRows_22 rfl (lv_at hl 1 rfl) ?_
        refine lv_iload hx hb dX12_compareRows_23 (lv_at hl 4 rfl) ?_
        refine lv_iadd hx hb dX12_compareRows_25 ?_
        obtain ⟨v_3, hv_3, h⟩ := ob h
        refine ag_86 hx hb hK hP hv_3 dX12_compareRows_26 ?_
        refine lv_aload_n hx hb dX12_compareRows_27 rfl (lv_at hl 0 rfl) ?_
        refine fg_85 hx hb hts hown hK hP dX12_compareRows_28 ?_
        refine lv_iload_n hx hb dX12_compareRows_31 rfl (lv_at hl 2 rfl) ?_
        refine lv_iload hx hb dX12_compareRows_32 (lv_at hl 4 rfl) ?_
        refine lv_iadd hx hb dX12_compareRows_34 ?_
        obtain ⟨v_4, hv_4, h⟩ := ob h
        refine ag_85 hx hb hK hP hv_4 dX12_compareRows_35 ?_
        refine lv_aload_n hx hb dX12_compareRows_36 rfl (lv_at hl 0 rfl) ?_
        refine fg_86 hx hb hts hown hK hP dX12_compareRows_37 ?_
        refine lv_iload_n hx hb dX12_compareRows_40 rfl (lv_at hl 2 rfl) ?_
        refine lv_iload hx hb dX12_compareRows_41 (lv_at hl 4 rfl) ?_
        refine lv_iadd hx hb dX12_compareRows_43 ?_
        obtain ⟨v_5, hv_5, h⟩ := ob h
        refine ag_86 hx hb hK hP hv_5 dX12_compareRows_44 ?_
        obtain ⟨v_6, hv_6, h⟩ := ob h
        refine calSI (As := [.long v_2, .int v_3, .long v_4, .int v_5]) hx hb hml hts hown hK hP hD hS hA hZ (s_compare l dC dI cB cI cJ cZ h0 a K V fz F cs v_2 v_3 v_4 v_5 v_6 hv_6) (cw_compare hts (fr := 0) (Nat.le_of_ble_eq_true rfl) (Nat.le_of_ble_eq_true rfl)) rfl hl.1 (Nat.le_of_ble_eq_true rfl) ⟨Nat.zero_le _, Nat.zero_le _⟩ dX12_compareRows_45 (fun H locs hP hD hS => ?_)
        refine lv_istore (lv' := [(5, .int v_6), (0, .ref h0), (1, .int u1), (2, .int u2), (3, .int u3), (4, .int u4)]) hx hb dX12_compareRows_48 hl (by decide) rfl (fun ls hl => ?_)
        refine lv_iload hx hb dX12_compareRows_50 (lv_at hl 0 rfl) ?_
        refine lv_if_eq (tgt := 58) hx hb dX12_compareRows_52 (by decide) (fun c_7 => ?_) (fun c_7 => ?_)
        · skip
          replace h := (if_pos c_7).symm.trans h
          refine lv_iinc (v := u4 + 1) (lv' := [(4, .int (u4 + 1)), (5, .int v_6), (0, .ref h0), (1, .int u1), (2, .int u2), (3, .int u3)]) hx hb dX12_compareRows_58 hl (k := 5) rfl rfl (by decide) rfl (fun ls hl => ?_)
          refine lv_goto (tgt := 3) hx hb dX12_compareRows_61 (by decide) ?_
          exact ih_3 u1 u2 u3 (u4 + 1) h _ _ _ hP hD hS (lv_sub hl [2, 3, 4, 5, 0] rfl)
        · skip
          replace h := (if_neg c_7).symm.trans h
          refine lv_iload hx hb dX12_compareRows_55 (lv_at hl 0 rfl) ?_
          have e2 := Option.some.inj h
          exact W.iret (v := v_6) hx hb hr (fun t_ ht hW => ⟨⟨v_6, (), rfl, e2, by rw [ht]; exact hP, hD⟩, hS.F ht⟩) hS.2.2 dX12_compareRows_57
  have h := hf
  unfold m_compareRows at h
  refine lv_iconst (v := 0) hx hb dX12_compareRows_0 (by decide) ?_
  refine lv_istore (lv' := [(4, .int 0), (0, .ref h0), (1, .int x1), (2, .int x2), (3, .int x3)]) hx hb dX12_compareRows_1 hl (by decide) rfl (fun ls hl => ?_)
  exact L_3 F x1 x2 x3 0 h _ _ _ hP hD hS (lv_sub hl [1, 2, 3, 4, 0] rfl)
theorem cw_compareRows {R : Room} {s : State} {args : Array Value} {y0 : MethodName} {c0 : ByteArray} {n0 : Nat} {r0 : Option FieldType} (hts : ∀ w ∈ wsOf y0 c0 n0 r0, w.before args s = true) {fr : Nat} (h1 : fr + 1 ≤ R.frames) (h2 : 8 + (6 + 11) + 60 * fr ≤ R.locals) : CallW R s args RX12 RX12 693 yX12_compareRows cX12_compareRows 6 (some .int) (wsOf yX12_compareRows cX12_compareRows 6 (some .int)) ({ frames := fr, cells := 0, slots := 0, locals := 60 * fr } : Room) 0 0 3 := cwV 3 hts (gd_all (in_V kw_2165 kw_2167 kw_121 kw_191 kc_X12_compareRows)) rfl rfl rfl (by decide +kernel) ⟨h1, h2⟩
theorem dX12_isLetter_0 : decode cX12_isLetter 0 = .ok (.iload_n 0, 1) := by decide +kernel
theorem dX12_isLetter_1 : decode cX12_isLetter 1 = .ok (.bipush 97, 2) := by decide +kernel
theorem dX12_isLetter_3 : decode cX12_isLetter 3 = .ok (.if_icmp .lt 13, 3) := by decide +kernel
theorem dX12_isLetter_6 : decode cX12_isLetter 6 = .ok (.iload_n 0, 1) := by decide +kernel
theorem dX12_isLetter_7 : decode cX12_isLetter 7 = .ok (.bipush 122, 2) := by decide +kernel
theorem dX12_isLetter_9 : decode cX12_isLetter 9 = .ok (.if_icmp .gt 7, 3) := by decide +kernel
theorem dX12_isLetter_12 : decode cX12_isLetter 12 = .ok (.iconst 1, 1) := by decide +kernel
theorem dX12_isLetter_13 : decode cX12_isLetter 13 = .ok (.goto 4, 3) := by decide +kernel
theorem dX12_isLetter_16 : decode cX12_isLetter 16 = .ok (.iconst 0, 1) := by decide +kernel
theorem dX12_isLetter_17 : decode cX12_isLetter 17 = .ok (.ireturn, 1) := by decide +kernel
def m_isLetter_b17 (F : Nat) (cs : RS) (y0 : Int32) : Option Int32 := Option.bind (ckZ y0) fun _ => some y0
def m_isLetter_b16 (F : Nat) (cs : RS) : Option Int32 := m_isLetter_b17 F cs 0
def m_isLetter (F : Nat) (cs : RS) (x0 : Int32) : Option Int32 := if x0 < 97 then (m_isLetter_b16 F cs ) else (if 122 < x0 then (m_isLetter_b16 F cs ) else (m_isLetter_b17 F cs 1))
set_option maxHeartbeats 4000000 in
set_option maxRecDepth 100000 in
theorem s_isLetter (l : Launch) (dC : Nat → ClassId) (dI : Nat → Nat → Nat) (cB cI cJ cZ : ClassId) (h0 : Nat) (a : Nat → Nat) (K V : Nat → Nat) (fz : Value) (F : Nat) (cs : RS) (x0 : Int32) (r9 : Int32) (hf : m_isLetter F cs x0 = some r9) : okI l dC dI cB cI cJ cZ h0 a K V fz yX12_isLetter (wsOf yX12_isLetter cX12_isLetter 1 (some .boolean)) (0) [.int x0] cs cs r9 := by
  intro sz
  refine Met.ofW (cc := cX12_isLetter) (maxL := 1) (ret := (some .boolean)) (by decide) rfl ?_
  intro p e s m args below meth c s₁ B hml hv
  obtain ⟨rfl, hsz, hP, hK, hD0, hZ⟩ := hv
  have hx := B.exec
  have hb := B.bytes
  have hr := B.returns
  have hts := atoms_spec (ws := (wsOf yX12_isLetter cX12_isLetter 1 (some .boolean))) B.pre
  have hown : s.vm.findClass RX12 = some m.cls := findClass_of_methodNamed B.named
  have hlocks := B.notSynchronized
  subst hsz
  have hD := hD0.self (sz := s.heap.size)
  generalize hAe : va_A (mW cB cI cJ cZ h0 a cs) s.heap.size = A at hD hZ ⊢
  have hA : ∀ q : Nat, s.heap.size ≤ q → A q := fun q h => by rw [← hAe]; exact Or.inr h
  have hS : va_S A s.heap s.heap [] := va_S.rf
  have hl := lv_entry ([.int x0]) (n := 1) (Nat.le_of_ble_eq_true rfl)
  rw [lg_entry_eq]
  generalize (lg_sl ([.int x0]) ++ List.replicate (1 - (lg_sl ([.int x0])).length) Slot.unset).toArray = ls at hl ⊢
  have hl : lv_has ls 1 [(0, .int x0)] := hl
  have B_17 : ∀ (y0 : Int32), m_isLetter_b17 F cs y0 = some r9 → ∀ (H : Heap) (locs : List Loc) (ls : Array Slot), va_P (dC, dI) vwCl (mW cB cI cJ cZ h0 a cs) H → va_D A (mW cB cI cJ cZ h0 a cs) → va_S A s.heap H locs → lv_has ls 1 [] → W p l e (headSpec (wsOf yX12_isLetter cX12_isLetter 1 (some .boolean)) ({ frames := 0, cells := 0, slots := 0, locals := 60 * (0) } : Room)).room s m ([.int x0] : List Value).toArray below meth c H locs 0 0 (MQ below (va_Qi (fun (x : Int32) (_ : Unit) => x = r9) (fun _ t_ => va_P (dC, dI) vwCl (mW cB cI cJ cZ h0 a cs) t_.heap ∧ va_D A (mW cB cI cJ cZ h0 a cs)) A) ([.int x0] : List Value).toArray s 0 0 A) (F0 m 17 ls [.int y0]) := by
    intro y0 h H locs ls hP hD hS hl
    unfold m_isLetter_b17 at h
    obtain ⟨w_1, hw_1, h⟩ := ob h
    have e2 := Option.some.inj h
    exact W.zret (v := y0) hx hb hr (nzN (ckZ_some hw_1)) (fun t_ ht hW => ⟨⟨y0, (), rfl, e2, by rw [ht]; exact hP, hD⟩, hS.F ht⟩) hS.2.2 dX12_isLetter_17
  have B_16 : m_isLetter_b16 F cs = some r9 → ∀ (H : Heap) (locs : List Loc) (ls : Array Slot), va_P (dC, dI) vwCl (mW cB cI cJ cZ h0 a cs) H → va_D A (mW cB cI cJ cZ h0 a cs) → va_S A s.heap H locs → lv_has ls 1 [] → W p l e (headSpec (wsOf yX12_isLetter cX12_isLetter 1 (some .boolean)) ({ frames := 0, cells := 0, slots := 0, locals := 60 * (0) } : Room)).room s m ([.int x0] : List Value).toArray below meth c H locs 0 0 (MQ below (va_Qi (fun (x : Int32) (_ : Unit) => x = r9) (fun _ t_ => va_P (dC, dI) vwCl (mW cB cI cJ cZ h0 a cs) t_.heap ∧ va_D A (mW cB cI cJ cZ h0 a cs)) A) ([.int x0] : List Value).toArray s 0 0 A) (F0 m 16 ls []) := by
    intro  h H locs ls hP hD hS hl
    unfold m_isLetter_b16 at h
    refine lv_iconst (v := 0) hx hb dX12_isLetter_16 (by decide) ?_
    exact B_17 0 h _ _ _ hP hD hS (lv_sub hl [] rfl)
  have h := hf
  unfold m_isLetter at h
  refine lv_iload_n hx hb dX12_isLetter_0 rfl (lv_at hl 0 rfl) ?_
  refine lv_bipush (v := 97) hx hb dX12_isLetter_1 (by decide) ?_
  refine lv_icmp_lt (tgt := 16) hx hb dX12_isLetter_3 (by decide) (fun c_2 => ?_) (fun c_2 => ?_)
  · skip
    replace h := (if_pos c_2).symm.trans h
    exact B_16  h _ _ _ hP hD hS (lv_sub hl [] rfl)
  · skip
    replace h := (if_neg c_2).symm.trans h
    refine lv_iload_n hx hb dX12_isLetter_6 rfl (lv_at hl 0 rfl) ?_
    refine lv_bipush (v := 122) hx hb dX12_isLetter_7 (by decide) ?_
    refine lv_icmp_gt (tgt := 16) hx hb dX12_isLetter_9 (by decide) (fun c_3 => ?_) (fun c_3 => ?_)
    · skip
      replace h := (if_pos c_3).symm.trans h
      exact B_16  h _ _ _ hP hD hS (lv_sub hl [] rfl)
    · skip
      replace h := (if_neg c_3).symm.trans h
      refine lv_iconst (v := 1) hx hb dX12_isLetter_12 (by decide) ?_
      refine lv_goto (tgt := 17) hx hb dX12_isLetter_13 (by decide) ?_
      exact B_17 1 h _ _ _ hP hD hS (lv_sub hl [] rfl)
theorem cw_isLetter {R : Room} {s : State} {args : Array Value} {y0 : MethodName} {c0 : ByteArray} {n0 : Nat} {r0 : Option FieldType} (hts : ∀ w ∈ wsOf y0 c0 n0 r0, w.before args s = true) {fr : Nat} (h1 : fr + 1 ≤ R.frames) (h2 : 8 + (1 + 11) + 60 * fr ≤ R.locals) : CallB R s args RX12 281 yX12_isLetter cX12_isLetter 1 (some .boolean) (wsOf yX12_isLetter cX12_isLetter 1 (some .boolean)) ({ frames := fr, cells := 0, slots := 0, locals := 60 * fr } : Room) 0 0 1 ∧ (Cond.static yX12_isLetter).before args s = true := ⟨callB_of 1 hts (gd_all (in_I kc_X12_isLetter)) rfl rfl rfl (hts _ (List.mem_cons_of_mem _ kw_191)) (hts _ (List.mem_cons_of_mem _ kw_2232)) (by decide +kernel) ⟨h1, h2⟩, hts _ (List.mem_cons_of_mem _ kw_2233)⟩
theorem dX12_isDigit_0 : decode cX12_isDigit 0 = .ok (.iload_n 0, 1) := by decide +kernel
theorem dX12_isDigit_1 : decode cX12_isDigit 1 = .ok (.bipush 48, 2) := by decide +kernel
theorem dX12_isDigit_3 : decode cX12_isDigit 3 = .ok (.if_icmp .lt 13, 3) := by decide +kernel
theorem dX12_isDigit_6 : decode cX12_isDigit 6 = .ok (.iload_n 0, 1) := by decide +kernel
theorem dX12_isDigit_7 : decode cX12_isDigit 7 = .ok (.bipush 57, 2) := by decide +kernel
theorem dX12_isDigit_9 : decode cX12_isDigit 9 = .ok (.if_icmp .gt 7, 3) := by decide +kernel
theorem dX12_isDigit_12 : decode cX12_isDigit 12 = .ok (.iconst 1, 1) := by decide +kernel
theorem dX12_isDigit_13 : decode cX12_isDigit 13 = .ok (.goto 4, 3) := by decide +kernel
theorem dX12_isDigit_16 : decode cX12_isDigit 16 = .ok (.iconst 0, 1) := by decide +kernel
theorem dX12_isDigit_17 : decode cX12_isDigit 17 = .ok (.ireturn, 1) := by decide +kernel
def m_isDigit_b17 (F : Nat) (cs : RS) (y0 : Int32) : Option Int32 := Option.bind (ckZ y0) fun _ => some y0
def m_isDigit_b16 (F : Nat) (cs : RS) : Option Int32 := m_isDigit_b17 F cs 0
def m_isDigit (F : Nat) (cs : RS) (x0 : Int32) : Option Int32 := if x0 < 48 then (m_isDigit_b16 F cs ) else (if 57 < x0 then (m_isDigit_b16 F cs ) else (m_isDigit_b17 F cs 1))
set_option maxHeartbeats 4000000 in
set_option maxRecDepth 100000 in
theorem s_isDigit (l : Launch) (dC : Nat → ClassId) (dI : Nat → Nat → Nat) (cB cI cJ cZ : ClassId) (h0 : Nat) (a : Nat → Nat) (K V : Nat → Nat) (fz : Value) (F : Nat) (cs : RS) (x0 : Int32) (r9 : Int32) (hf : m_isDigit F cs x0 = some r9) : okI l dC dI cB cI cJ cZ h0 a K V fz yX12_isDigit (wsOf yX12_isDigit cX12_isDigit 1 (some .boolean)) (0) [.int x0] cs cs r9 := by
  intro sz
  refine Met.ofW (cc := cX12_isDigit) (maxL := 1) (ret := (some .boolean)) (by decide) rfl ?_
  intro p e s m args below meth c s₁ B hml hv
  obtain ⟨rfl, hsz, hP, hK, hD0, hZ⟩ := hv
  have hx := B.exec
  have hb := B.bytes
  have hr := B.returns
  have hts := atoms_spec (ws := (wsOf yX12_isDigit cX12_isDigit 1 (some .boolean))) B.pre
  have hown : s.vm.findClass RX12 = some m.cls := findClass_of_methodNamed B.named
  have hlocks := B.notSynchronized
  subst hsz
  have hD := hD0.self (sz := s.heap.size)
  generalize hAe : va_A (mW cB cI cJ cZ h0 a cs) s.heap.size = A at hD hZ ⊢
  have hA : ∀ q : Nat, s.heap.size ≤ q → A q := fun q h => by rw [← hAe]; exact Or.inr h
  have hS : va_S A s.heap s.heap [] := va_S.rf
  have hl := lv_entry ([.int x0]) (n := 1) (Nat.le_of_ble_eq_true rfl)
  rw [lg_entry_eq]
  generalize (lg_sl ([.int x0]) ++ List.replicate (1 - (lg_sl ([.int x0])).length) Slot.unset).toArray = ls at hl ⊢
  have hl : lv_has ls 1 [(0, .int x0)] := hl
  have B_17 : ∀ (y0 : Int32), m_isDigit_b17 F cs y0 = some r9 → ∀ (H : Heap) (locs : List Loc) (ls : Array Slot), va_P (dC, dI) vwCl (mW cB cI cJ cZ h0 a cs) H → va_D A (mW cB cI cJ cZ h0 a cs) → va_S A s.heap H locs → lv_has ls 1 [] → W p l e (headSpec (wsOf yX12_isDigit cX12_isDigit 1 (some .boolean)) ({ frames := 0, cells := 0, slots := 0, locals := 60 * (0) } : Room)).room s m ([.int x0] : List Value).toArray below meth c H locs 0 0 (MQ below (va_Qi (fun (x : Int32) (_ : Unit) => x = r9) (fun _ t_ => va_P (dC, dI) vwCl (mW cB cI cJ cZ h0 a cs) t_.heap ∧ va_D A (mW cB cI cJ cZ h0 a cs)) A) ([.int x0] : List Value).toArray s 0 0 A) (F0 m 17 ls [.int y0]) := by
    intro y0 h H locs ls hP hD hS hl
    unfold m_isDigit_b17 at h
    obtain ⟨w_1, hw_1, h⟩ := ob h
    have e2 := Option.some.inj h
    exact W.zret (v := y0) hx hb hr (nzN (ckZ_some hw_1)) (fun t_ ht hW => ⟨⟨y0, (), rfl, e2, by rw [ht]; exact hP, hD⟩, hS.F ht⟩) hS.2.2 dX12_isDigit_17
  have B_16 : m_isDigit_b16 F cs = some r9 → ∀ (H : Heap) (locs : List Loc) (ls : Array Slot), va_P (dC, dI) vwCl (mW cB cI cJ cZ h0 a cs) H → va_D A (mW cB cI cJ cZ h0 a cs) → va_S A s.heap H locs → lv_has ls 1 [] → W p l e (headSpec (wsOf yX12_isDigit cX12_isDigit 1 (some .boolean)) ({ frames := 0, cells := 0, slots := 0, locals := 60 * (0) } : Room)).room s m ([.int x0] : List Value).toArray below meth c H locs 0 0 (MQ below (va_Qi (fun (x : Int32) (_ : Unit) => x = r9) (fun _ t_ => va_P (dC, dI) vwCl (mW cB cI cJ cZ h0 a cs) t_.heap ∧ va_D A (mW cB cI cJ cZ h0 a cs)) A) ([.int x0] : List Value).toArray s 0 0 A) (F0 m 16 ls []) := by
    intro  h H locs ls hP hD hS hl
    unfold m_isDigit_b16 at h
    refine lv_iconst (v := 0) hx hb dX12_isDigit_16 (by decide) ?_
    exact B_17 0 h _ _ _ hP hD hS (lv_sub hl [] rfl)
  have h := hf
  unfold m_isDigit at h
  refine lv_iload_n hx hb dX12_isDigit_0 rfl (lv_at hl 0 rfl) ?_
  refine lv_bipush (v := 48) hx hb dX12_isDigit_1 (by decide) ?_
  refine lv_icmp_lt (tgt := 16) hx hb dX12_isDigit_3 (by decide) (fun c_2 => ?_) (fun c_2 => ?_)
  · skip
    replace h := (if_pos c_2).symm.trans h
    exact B_16  h _ _ _ hP hD hS (lv_sub hl [] rfl)
  · skip
    replace h := (if_neg c_2).symm.trans h
    refine lv_iload_n hx hb dX12_isDigit_6 rfl (lv_at hl 0 rfl) ?_
    refine lv_bipush (v := 57) hx hb dX12_isDigit_7 (by decide) ?_
    refine lv_icmp_gt (tgt := 16) hx hb dX12_isDigit_9 (by decide) (fun c_3 => ?_) (fun c_3 => ?_)
    · skip
      replace h := (if_pos c_3).symm.trans h
      exact B_16  h _ _ _ hP hD hS (lv_sub hl [] rfl)
    · skip
      replace h := (if_neg c_3).symm.trans h
      refine lv_iconst (v := 1) hx hb dX12_isDigit_12 (by decide) ?_
      refine lv_goto (tgt := 17) hx hb dX12_isDigit_13 (by decide) ?_
      exact B_17 1 h _ _ _ hP hD hS (lv_sub hl [] rfl)
theorem cw_isDigit {R : Room} {s : State} {args : Array Value} {y0 : MethodName} {c0 : ByteArray} {n0 : Nat} {r0 : Option FieldType} (hts : ∀ w ∈ wsOf y0 c0 n0 r0, w.before args s = true) {fr : Nat} (h1 : fr + 1 ≤ R.frames) (h2 : 8 + (1 + 11) + 60 * fr ≤ R.locals) : CallB R s args RX12 285 yX12_isDigit cX12_isDigit 1 (some .boolean) (wsOf yX12_isDigit cX12_isDigit 1 (some .boolean)) ({ frames := fr, cells := 0, slots := 0, locals := 60 * fr } : Room) 0 0 1 ∧ (Cond.static yX12_isDigit).before args s = true := ⟨callB_of 1 hts (gd_all (in_I kc_X12_isDigit)) rfl rfl rfl (hts _ (List.mem_cons_of_mem _ kw_191)) (hts _ (List.mem_cons_of_mem _ kw_2235)) (by decide +kernel) ⟨h1, h2⟩, hts _ (List.mem_cons_of_mem _ kw_2236)⟩
theorem dX12_tell_0 : decode cX12_tell 0 = .ok (.aload_n 0, 1) := by decide +kernel
theorem dX12_tell_1 : decode cX12_tell 1 = .ok (.getfield 292, 3) := by decide +kernel
theorem dX12_tell_4 : decode cX12_tell 4 = .ok (.ifCond .eq 18, 3) := by decide +kernel
theorem dX12_tell_7 : decode cX12_tell 7 = .ok (.aload_n 0, 1) := by decide +kernel
theorem dX12_tell_8 : decode cX12_tell 8 = .ok (.iconst 0, 1) := by decide +kernel
theorem dX12_tell_9 : decode cX12_tell 9 = .ok (.putfield 292, 3) := by decide +kernel
theorem dX12_tell_12 : decode cX12_tell 12 = .ok (.aload_n 0, 1) := by decide +kernel
theorem dX12_tell_13 : decode cX12_tell 13 = .ok (.iload_n 1, 1) := by decide +kernel
theorem dX12_tell_14 : decode cX12_tell 14 = .ok (.putfield 296, 3) := by decide +kernel
theorem dX12_tell_17 : decode cX12_tell 17 = .ok (.aload_n 0, 1) := by decide +kernel
theorem dX12_tell_18 : decode cX12_tell 18 = .ok (.iload_n 2, 1) := by decide +kernel
theorem dX12_tell_19 : decode cX12_tell 19 = .ok (.putfield 299, 3) := by decide +kernel
theorem dX12_tell_22 : decode cX12_tell 22 = .ok (.return_, 1) := by decide +kernel
def m_tell_b22 (F : Nat) (cs1 : RS) : Option RS := some cs1
def m_tell (F : Nat) (cs : RS) (x1 : Int32) (x2 : Int32) : Option RS := if (cs.1 21) = 0 then (m_tell_b22 F cs) else (m_tell_b22 F (setF (setF (setF cs 21 0) 19 x1) 20 x2))
set_option maxHeartbeats 4000000 in
set_option maxRecDepth 100000 in
theorem s_tell (l : Launch) (dC : Nat → ClassId) (dI : Nat → Nat → Nat) (cB cI cJ cZ : ClassId) (h0 : Nat) (a : Nat → Nat) (K V : Nat → Nat) (fz : Value) (F : Nat) (cs : RS) (x1 : Int32) (x2 : Int32) (cs9 : RS) (hf : m_tell F cs x1 x2 = some cs9) : okV l dC dI cB cI cJ cZ h0 a K V fz yX12_tell (wsOf yX12_tell cX12_tell 3 none) (0) [.ref h0, .int x1, .int x2] cs cs9 := by
  intro sz
  refine Met.ofW (cc := cX12_tell) (maxL := 3) (ret := none) (by decide) rfl ?_
  intro p e s m args below meth c s₁ B hml hv
  obtain ⟨rfl, hsz, hP, hK, hD0, hZ⟩ := hv
  have hx := B.exec
  have hb := B.bytes
  have hr := B.returns
  have hts := atoms_spec (ws := (wsOf yX12_tell cX12_tell 3 none)) B.pre
  have hown : s.vm.findClass RX12 = some m.cls := findClass_of_methodNamed B.named
  have hlocks := B.notSynchronized
  subst hsz
  have hD := hD0.self (sz := s.heap.size)
  generalize hAe : va_A (mW cB cI cJ cZ h0 a cs) s.heap.size = A at hD hZ ⊢
  have hA : ∀ q : Nat, s.heap.size ≤ q → A q := fun q h => by rw [← hAe]; exact Or.inr h
  have hS : va_S A s.heap s.heap [] := va_S.rf
  have hl := lv_entry ([.ref h0, .int x1, .int x2]) (n := 3) (Nat.le_of_ble_eq_true rfl)
  rw [lg_entry_eq]
  generalize (lg_sl ([.ref h0, .int x1, .int x2]) ++ List.replicate (3 - (lg_sl ([.ref h0, .int x1, .int x2])).length) Slot.unset).toArray = ls at hl ⊢
  have hl : lv_has ls 3 [(0, .ref h0), (1, .int x1), (2, .int x2)] := hl
  have B_22 : ∀ (cs1 : RS) , m_tell_b22 F cs1 = some cs9 → ∀ (H : Heap) (locs : List Loc) (ls : Array Slot), va_P (dC, dI) vwCl (mW cB cI cJ cZ h0 a cs1) H → va_D A (mW cB cI cJ cZ h0 a cs1) → va_S A s.heap H locs → lv_has ls 3 [] → W p l e (headSpec (wsOf yX12_tell cX12_tell 3 none) ({ frames := 0, cells := 0, slots := 0, locals := 60 * (0) } : Room)).room s m ([.ref h0, .int x1, .int x2] : List Value).toArray below meth c H locs 0 0 (MQ below (va_Qv (fun (_ : Unit) => True) (fun _ t_ => va_P (dC, dI) vwCl (mW cB cI cJ cZ h0 a cs9) t_.heap ∧ va_D A (mW cB cI cJ cZ h0 a cs9)) A) ([.ref h0, .int x1, .int x2] : List Value).toArray s 0 0 A) (F0 m 22 ls []) := by
    intro cs1  h H locs ls hP hD hS hl
    unfold m_tell_b22 at h
    have e1 := Option.some.inj h
    rw [e1] at hP hD
    exact W.vret hx hb hr (fun t_ ht hW => ⟨⟨(), rfl, trivial, by rw [ht]; exact hP, hD⟩, hS.F ht⟩) hS.2.2 dX12_tell_22
  have h := hf
  unfold m_tell at h
  refine lv_aload_n hx hb dX12_tell_0 rfl (lv_at hl 0 rfl) ?_
  refine fg_21 hx hb hts hown hK hP dX12_tell_1 ?_
  refine lv_if_eq (tgt := 22) hx hb dX12_tell_4 (by decide) (fun c_1 => ?_) (fun c_1 => ?_)
  · skip
    replace h := (if_pos c_1).symm.trans h
    exact B_22 cs h _ _ _ hP hD hS (lv_sub hl [] rfl)
  · skip
    replace h := (if_neg c_1).symm.trans h
    refine lv_aload_n hx hb dX12_tell_7 rfl (lv_at hl 0 rfl) ?_
    refine lv_iconst (v := 0) hx hb dX12_tell_8 (by decide) ?_
    refine fp_21 hx hb hts hown hK hP hD hS (Or.inl rfl) dX12_tell_9 (fun H locs hP hD hS => ?_)
    refine lv_aload_n hx hb dX12_tell_12 rfl (lv_at hl 0 rfl) ?_
    refine lv_iload_n hx hb dX12_tell_13 rfl (lv_at hl 1 rfl) ?_
    refine fp_19 hx hb hts hown hK hP hD hS dX12_tell_14 (fun H locs hP hD hS => ?_)
    refine lv_aload_n hx hb dX12_tell_17 rfl (lv_at hl 0 rfl) ?_
    refine lv_iload_n hx hb dX12_tell_18 rfl (lv_at hl 2 rfl) ?_
    refine fp_20 hx hb hts hown hK hP hD hS dX12_tell_19 (fun H locs hP hD hS => ?_)
    exact B_22 (setF (setF (setF cs 21 0) 19 x1) 20 x2) h _ _ _ hP hD hS (lv_sub hl [] rfl)
theorem cw_tell {R : Room} {s : State} {args : Array Value} {y0 : MethodName} {c0 : ByteArray} {n0 : Nat} {r0 : Option FieldType} (hts : ∀ w ∈ wsOf y0 c0 n0 r0, w.before args s = true) {fr : Nat} (h1 : fr + 1 ≤ R.frames) (h2 : 8 + (3 + 11) + 60 * fr ≤ R.locals) : CallW R s args RX12 RX12 305 yX12_tell cX12_tell 3 none (wsOf yX12_tell cX12_tell 3 none) ({ frames := fr, cells := 0, slots := 0, locals := 60 * fr } : Room) 0 0 2 := cwV 2 hts (gd_all (in_V kw_2272 kw_2274 kw_141 kw_191 kc_X12_tell)) rfl rfl rfl (by decide +kernel) ⟨h1, h2⟩
theorem dX12_wrong_0 : decode cX12_wrong 0 = .ok (.aload_n 0, 1) := by decide +kernel
theorem dX12_wrong_1 : decode cX12_wrong 1 = .ok (.iconst 1, 1) := by decide +kernel
theorem dX12_wrong_2 : decode cX12_wrong 2 = .ok (.aload_n 0, 1) := by decide +kernel
theorem dX12_wrong_3 : decode cX12_wrong 3 = .ok (.getfield 43, 3) := by decide +kernel
theorem dX12_wrong_6 : decode cX12_wrong 6 = .ok (.aload_n 0, 1) := by decide +kernel
theorem dX12_wrong_7 : decode cX12_wrong 7 = .ok (.getfield 302, 3) := by decide +kernel
theorem dX12_wrong_10 : decode cX12_wrong 10 = .ok (.iaload, 1) := by decide +kernel
theorem dX12_wrong_11 : decode cX12_wrong 11 = .ok (.invokevirtual 305, 3) := by decide +kernel
theorem dX12_wrong_14 : decode cX12_wrong 14 = .ok (.return_, 1) := by decide +kernel
def m_wrong (F : Nat) (cs : RS) : Option RS := Option.bind (rdI (cs.2.2.1 15) 2001 (cs.1 18)) fun v_1 => Option.bind (m_tell F cs 1 v_1) fun cs_2 => some cs_2
set_option maxHeartbeats 4000000 in
set_option maxRecDepth 100000 in
theorem s_wrong (l : Launch) (dC : Nat → ClassId) (dI : Nat → Nat → Nat) (cB cI cJ cZ : ClassId) (h0 : Nat) (a : Nat → Nat) (K V : Nat → Nat) (fz : Value) (F : Nat) (cs : RS) (cs9 : RS) (hf : m_wrong F cs = some cs9) : okV l dC dI cB cI cJ cZ h0 a K V fz yX12_wrong (wsOf yX12_wrong cX12_wrong 1 none) (1) [.ref h0] cs cs9 := by
  intro sz
  refine Met.ofW (cc := cX12_wrong) (maxL := 1) (ret := none) (by decide) rfl ?_
  intro p e s m args below meth c s₁ B hml hv
  obtain ⟨rfl, hsz, hP, hK, hD0, hZ⟩ := hv
  have hx := B.exec
  have hb := B.bytes
  have hr := B.returns
  have hts := atoms_spec (ws := (wsOf yX12_wrong cX12_wrong 1 none)) B.pre
  have hown : s.vm.findClass RX12 = some m.cls := findClass_of_methodNamed B.named
  have hlocks := B.notSynchronized
  subst hsz
  have hD := hD0.self (sz := s.heap.size)
  generalize hAe : va_A (mW cB cI cJ cZ h0 a cs) s.heap.size = A at hD hZ ⊢
  have hA : ∀ q : Nat, s.heap.size ≤ q → A q := fun q h => by rw [← hAe]; exact Or.inr h
  have hS : va_S A s.heap s.heap [] := va_S.rf
  have hl := lv_entry ([.ref h0]) (n := 1) (Nat.le_of_ble_eq_true rfl)
  rw [lg_entry_eq]
  generalize (lg_sl ([.ref h0]) ++ List.replicate (1 - (lg_sl ([.ref h0])).length) Slot.unset).toArray = ls at hl ⊢
  have hl : lv_has ls 1 [(0, .ref h0)] := hl
  have h := hf
  unfold m_wrong at h
  refine lv_aload_n hx hb dX12_wrong_0 rfl (lv_at hl 0 rfl) ?_
  refine lv_iconst (v := 1) hx hb dX12_wrong_1 (by decide) ?_
  refine lv_aload_n hx hb dX12_wrong_2 rfl (lv_at hl 0 rfl) ?_
  refine fg_15 hx hb hts hown hK hP dX12_wrong_3 ?_
  refine lv_aload_n hx hb dX12_wrong_6 rfl (lv_at hl 0 rfl) ?_
  refine fg_18 hx hb hts hown hK hP dX12_wrong_7 ?_
  obtain ⟨v_1, hv_1, h⟩ := ob h
  refine ag_15 hx hb hK hP hv_1 dX12_wrong_10 ?_
  obtain ⟨cs_2, hv_2, h⟩ := ob h
  refine calV (As := [.int 1, .int v_1]) hx hb hml hts hown hK hP hD hS hA hZ (s_tell l dC dI cB cI cJ cZ h0 a K V fz F cs 1 v_1 cs_2 hv_2) (cw_tell hts (fr := 0) (Nat.le_of_ble_eq_true rfl) (Nat.le_of_ble_eq_true rfl)) rfl hl.1 (Nat.le_of_ble_eq_true rfl) ⟨Nat.zero_le _, Nat.zero_le _⟩ dX12_wrong_11 (fun H locs hP hD hS => ?_)
  have e1 := Option.some.inj h
  rw [e1] at hP hD
  exact W.vret hx hb hr (fun t_ ht hW => ⟨⟨(), rfl, trivial, by rw [ht]; exact hP, hD⟩, hS.F ht⟩) hS.2.2 dX12_wrong_14
theorem cw_wrong {R : Room} {s : State} {args : Array Value} {y0 : MethodName} {c0 : ByteArray} {n0 : Nat} {r0 : Option FieldType} (hts : ∀ w ∈ wsOf y0 c0 n0 r0, w.before args s = true) {fr : Nat} (h1 : fr + 1 ≤ R.frames) (h2 : 8 + (1 + 11) + 60 * fr ≤ R.locals) : CallW R s args RX12 RX12 329 yX12_wrong cX12_wrong 1 none (wsOf yX12_wrong cX12_wrong 1 none) ({ frames := fr, cells := 0, slots := 0, locals := 60 * fr } : Room) 0 0 0 := cwV 0 hts (gd_all (in_V kw_2268 kw_2270 kw_140 kw_191 kc_X12_wrong)) rfl rfl rfl (by decide +kernel) ⟨h1, h2⟩
theorem dX12_want_0 : decode cX12_want 0 = .ok (.aload_n 0, 1) := by decide +kernel
theorem dX12_want_1 : decode cX12_want 1 = .ok (.getfield 292, 3) := by decide +kernel
theorem dX12_want_4 : decode cX12_want 4 = .ok (.ifCond .eq 33, 3) := by decide +kernel
theorem dX12_want_7 : decode cX12_want 7 = .ok (.aload_n 0, 1) := by decide +kernel
theorem dX12_want_8 : decode cX12_want 8 = .ok (.getfield 76, 3) := by decide +kernel
theorem dX12_want_11 : decode cX12_want 11 = .ok (.iload_n 1, 1) := by decide +kernel
theorem dX12_want_12 : decode cX12_want 12 = .ok (.iaload, 1) := by decide +kernel
theorem dX12_want_13 : decode cX12_want 13 = .ok (.iload_n 2, 1) := by decide +kernel
theorem dX12_want_14 : decode cX12_want 14 = .ok (.if_icmp .eq 23, 3) := by decide +kernel
theorem dX12_want_17 : decode cX12_want 17 = .ok (.aload_n 0, 1) := by decide +kernel
theorem dX12_want_18 : decode cX12_want 18 = .ok (.getfield 76, 3) := by decide +kernel
theorem dX12_want_21 : decode cX12_want 21 = .ok (.iload_n 1, 1) := by decide +kernel
theorem dX12_want_22 : decode cX12_want 22 = .ok (.iaload, 1) := by decide +kernel
theorem dX12_want_23 : decode cX12_want 23 = .ok (.ifCond .eq 14, 3) := by decide +kernel
theorem dX12_want_26 : decode cX12_want 26 = .ok (.aload_n 0, 1) := by decide +kernel
theorem dX12_want_27 : decode cX12_want 27 = .ok (.iconst 4, 1) := by decide +kernel
theorem dX12_want_28 : decode cX12_want 28 = .ok (.aload_n 0, 1) := by decide +kernel
theorem dX12_want_29 : decode cX12_want 29 = .ok (.getfield 70, 3) := by decide +kernel
theorem dX12_want_32 : decode cX12_want 32 = .ok (.iload_n 1, 1) := by decide +kernel
theorem dX12_want_33 : decode cX12_want 33 = .ok (.iaload, 1) := by decide +kernel
theorem dX12_want_34 : decode cX12_want 34 = .ok (.invokevirtual 305, 3) := by decide +kernel
theorem dX12_want_37 : decode cX12_want 37 = .ok (.return_, 1) := by decide +kernel
def m_want_b37 (F : Nat) (cs1 : RS) : Option RS := some cs1
def m_want (F : Nat) (cs : RS) (x1 : Int32) (x2 : Int32) : Option RS := if (cs.1 21) = 0 then (m_want_b37 F cs) else (Option.bind (rdI (cs.2.2.1 31) 121 x1) fun v_2 => if v_2 = x2 then (m_want_b37 F cs) else (Option.bind (rdI (cs.2.2.1 31) 121 x1) fun v_4 => if v_4 = 0 then (m_want_b37 F cs) else (Option.bind (rdI (cs.2.2.1 29) 121 x1) fun v_6 => Option.bind (m_tell F cs 4 v_6) fun cs_7 => m_want_b37 F cs_7)))
set_option maxHeartbeats 4000000 in
set_option maxRecDepth 100000 in
theorem s_want (l : Launch) (dC : Nat → ClassId) (dI : Nat → Nat → Nat) (cB cI cJ cZ : ClassId) (h0 : Nat) (a : Nat → Nat) (K V : Nat → Nat) (fz : Value) (F : Nat) (cs : RS) (x1 : Int32) (x2 : Int32) (cs9 : RS) (hf : m_want F cs x1 x2 = some cs9) : okV l dC dI cB cI cJ cZ h0 a K V fz yX12_want (wsOf yX12_want cX12_want 3 none) (1) [.ref h0, .int x1, .int x2] cs cs9 := by
  intro sz
  refine Met.ofW (cc := cX12_want) (maxL := 3) (ret := none) (by decide) rfl ?_
  intro p e s m args below meth c s₁ B hml hv
  obtain ⟨rfl, hsz, hP, hK, hD0, hZ⟩ := hv
  have hx := B.exec
  have hb := B.bytes
  have hr := B.returns
  have hts := atoms_spec (ws := (wsOf yX12_want cX12_want 3 none)) B.pre
  have hown : s.vm.findClass RX12 = some m.cls := findClass_of_methodNamed B.named
  have hlocks := B.notSynchronized
  subst hsz
  have hD := hD0.self (sz := s.heap.size)
  generalize hAe : va_A (mW cB cI cJ cZ h0 a cs) s.heap.size = A at hD hZ ⊢
  have hA : ∀ q : Nat, s.heap.size ≤ q → A q := fun q h => by rw [← hAe]; exact Or.inr h
  have hS : va_S A s.heap s.heap [] := va_S.rf
  have hl := lv_entry ([.ref h0, .int x1, .int x2]) (n := 3) (Nat.le_of_ble_eq_true rfl)
  rw [lg_entry_eq]
  generalize (lg_sl ([.ref h0, .int x1, .int x2]) ++ List.replicate (3 - (lg_sl ([.ref h0, .int x1, .int x2])).length) Slot.unset).toArray = ls at hl ⊢
  have hl : lv_has ls 3 [(0, .ref h0), (1, .int x1), (2, .int x2)] := hl
  have B_37 : ∀ (cs1 : RS) , m_want_b37 F cs1 = some cs9 → ∀ (H : Heap) (locs : List Loc) (ls : Array Slot), va_P (dC, dI) vwCl (mW cB cI cJ cZ h0 a cs1) H → va_D A (mW cB cI cJ cZ h0 a cs1) → va_S A s.heap H locs → lv_has ls 3 [] → W p l e (headSpec (wsOf yX12_want cX12_want 3 none) ({ frames := 1, cells := 0, slots := 0, locals := 60 * (1) } : Room)).room s m ([.ref h0, .int x1, .int x2] : List Value).toArray below meth c H locs 0 0 (MQ below (va_Qv (fun (_ : Unit) => True) (fun _ t_ => va_P (dC, dI) vwCl (mW cB cI cJ cZ h0 a cs9) t_.heap ∧ va_D A (mW cB cI cJ cZ h0 a cs9)) A) ([.ref h0, .int x1, .int x2] : List Value).toArray s 0 0 A) (F0 m 37 ls []) := by
    intro cs1  h H locs ls hP hD hS hl
    unfold m_want_b37 at h
    have e1 := Option.some.inj h
    rw [e1] at hP hD
    exact W.vret hx hb hr (fun t_ ht hW => ⟨⟨(), rfl, trivial, by rw [ht]; exact hP, hD⟩, hS.F ht⟩) hS.2.2 dX12_want_37
  have h := hf
  unfold m_want at h
  refine lv_aload_n hx hb dX12_want_0 rfl (lv_at hl 0 rfl) ?_
  refine fg_21 hx hb hts hown hK hP dX12_want_1 ?_
  refine lv_if_eq (tgt := 37) hx hb dX12_want_4 (by decide) (fun c_1 => ?_) (fun c_1 => ?_)
  · skip
    replace h := (if_pos c_1).symm.trans h
    exact B_37 cs h _ _ _ hP hD hS (lv_sub hl [] rfl)
  · skip
    replace h := (if_neg c_1).symm.trans h
    refine lv_aload_n hx hb dX12_want_7 rfl (lv_at hl 0 rfl) ?_
    refine fg_31 hx hb hts hown hK hP dX12_want_8 ?_
    refine lv_iload_n hx hb dX12_want_11 rfl (lv_at hl 1 rfl) ?_
    obtain ⟨v_2, hv_2, h⟩ := ob h
    refine ag_31 hx hb hK hP hv_2 dX12_want_12 ?_
    refine lv_iload_n hx hb dX12_want_13 rfl (lv_at hl 2 rfl) ?_
    refine lv_icmp_eq (tgt := 37) hx hb dX12_want_14 (by decide) (fun c_3 => ?_) (fun c_3 => ?_)
    · skip
      replace h := (if_pos c_3).symm.trans h
      exact B_37 cs h _ _ _ hP hD hS (lv_sub hl [] rfl)
    · skip
      replace h := (if_neg c_3).symm.trans h
      refine lv_aload_n hx hb dX12_want_17 rfl (lv_at hl 0 rfl) ?_
      refine fg_31 hx hb hts hown hK hP dX12_want_18 ?_
      refine lv_iload_n hx hb dX12_want_21 rfl (lv_at hl 1 rfl) ?_
      obtain ⟨v_4, hv_4, h⟩ := ob h
      refine ag_31 hx hb hK hP hv_4 dX12_want_22 ?_
      refine lv_if_eq (tgt := 37) hx hb dX12_want_23 (by decide) (fun c_5 => ?_) (fun c_5 => ?_)
      · skip
        replace h := (if_pos c_5).symm.trans h
        exact B_37 cs h _ _ _ hP hD hS (lv_sub hl [] rfl)
      · skip
        replace h := (if_neg c_5).symm.trans h
        refine lv_aload_n hx hb dX12_want_26 rfl (lv_at hl 0 rfl) ?_
        refine lv_iconst (v := 4) hx hb dX12_want_27 (by decide) ?_
        refine lv_aload_n hx hb dX12_want_28 rfl (lv_at hl 0 rfl) ?_
        refine fg_29 hx hb hts hown hK hP dX12_want_29 ?_
        refine lv_iload_n hx hb dX12_want_32 rfl (lv_at hl 1 rfl) ?_
        obtain ⟨v_6, hv_6, h⟩ := ob h
        refine ag_29 hx hb hK hP hv_6 dX12_want_33 ?_
        obtain ⟨cs_7, hv_7, h⟩ := ob h
        refine calV (As := [.int 4, .int v_6]) hx hb hml hts hown hK hP hD hS hA hZ (s_tell l dC dI cB cI cJ cZ h0 a K V fz F cs 4 v_6 cs_7 hv_7) (cw_tell hts (fr := 0) (Nat.le_of_ble_eq_true rfl) (Nat.le_of_ble_eq_true rfl)) rfl hl.1 (Nat.le_of_ble_eq_true rfl) ⟨Nat.zero_le _, Nat.zero_le _⟩ dX12_want_34 (fun H locs hP hD hS => ?_)
        exact B_37 cs_7 h _ _ _ hP hD hS (lv_sub hl [] rfl)
theorem cw_want {R : Room} {s : State} {args : Array Value} {y0 : MethodName} {c0 : ByteArray} {n0 : Nat} {r0 : Option FieldType} (hts : ∀ w ∈ wsOf y0 c0 n0 r0, w.before args s = true) {fr : Nat} (h1 : fr + 1 ≤ R.frames) (h2 : 8 + (3 + 11) + 60 * fr ≤ R.locals) : CallW R s args RX12 RX12 540 yX12_want cX12_want 3 none (wsOf yX12_want cX12_want 3 none) ({ frames := fr, cells := 0, slots := 0, locals := 60 * fr } : Room) 0 0 2 := cwV 2 hts (gd_all (in_V kw_2455 kw_2457 kw_177 kw_191 kc_X12_want)) rfl rfl rfl (by decide +kernel) ⟨h1, h2⟩
theorem dX12_bounded_0 : decode cX12_bounded 0 = .ok (.iload_n 1, 1) := by decide +kernel
theorem dX12_bounded_1 : decode cX12_bounded 1 = .ok (.ifCond .ne 16, 3) := by decide +kernel
theorem dX12_bounded_4 : decode cX12_bounded 4 = .ok (.aload_n 0, 1) := by decide +kernel
theorem dX12_bounded_5 : decode cX12_bounded 5 = .ok (.getfield 552, 3) := by decide +kernel
theorem dX12_bounded_8 : decode cX12_bounded 8 = .ok (.ifCond .ne 9, 3) := by decide +kernel
theorem dX12_bounded_11 : decode cX12_bounded 11 = .ok (.aload_n 0, 1) := by decide +kernel
theorem dX12_bounded_12 : decode cX12_bounded 12 = .ok (.iconst 5, 1) := by decide +kernel
theorem dX12_bounded_13 : decode cX12_bounded 13 = .ok (.iload_n 2, 1) := by decide +kernel
theorem dX12_bounded_14 : decode cX12_bounded 14 = .ok (.invokevirtual 305, 3) := by decide +kernel
theorem dX12_bounded_17 : decode cX12_bounded 17 = .ok (.return_, 1) := by decide +kernel
def m_bounded_b17 (F : Nat) (cs1 : RS) : Option RS := some cs1
def m_bounded (F : Nat) (cs : RS) (x1 : Int32) (x2 : Int32) : Option RS := if x1 = 0 then (if (cs.1 75) = 0 then (Option.bind (m_tell F cs 5 x2) fun cs_3 => m_bounded_b17 F cs_3) else (m_bounded_b17 F cs)) else (m_bounded_b17 F cs)
set_option maxHeartbeats 4000000 in
set_option maxRecDepth 100000 in
theorem s_bounded (l : Launch) (dC : Nat → ClassId) (dI : Nat → Nat → Nat) (cB cI cJ cZ : ClassId) (h0 : Nat) (a : Nat → Nat) (K V : Nat → Nat) (fz : Value) (F : Nat) (cs : RS) (x1 : Int32) (x2 : Int32) (cs9 : RS) (hf : m_bounded F cs x1 x2 = some cs9) : okV l dC dI cB cI cJ cZ h0 a K V fz yX12_bounded (wsOf yX12_bounded cX12_bounded 3 none) (1) [.ref h0, .int x1, .int x2] cs cs9 := by
  intro sz
  refine Met.ofW (cc := cX12_bounded) (maxL := 3) (ret := none) (by decide) rfl ?_
  intro p e s m args below meth c s₁ B hml hv
  obtain ⟨rfl, hsz, hP, hK, hD0, hZ⟩ := hv
  have hx := B.exec
  have hb := B.bytes
  have hr := B.returns
  have hts := atoms_spec (ws := (wsOf yX12_bounded cX12_bounded 3 none)) B.pre
  have hown : s.vm.findClass RX12 = some m.cls := findClass_of_methodNamed B.named
  have hlocks := B.notSynchronized
  subst hsz
  have hD := hD0.self (sz := s.heap.size)
  generalize hAe : va_A (mW cB cI cJ cZ h0 a cs) s.heap.size = A at hD hZ ⊢
  have hA : ∀ q : Nat, s.heap.size ≤ q → A q := fun q h => by rw [← hAe]; exact Or.inr h
  have hS : va_S A s.heap s.heap [] := va_S.rf
  have hl := lv_entry ([.ref h0, .int x1, .int x2]) (n := 3) (Nat.le_of_ble_eq_true rfl)
  rw [lg_entry_eq]
  generalize (lg_sl ([.ref h0, .int x1, .int x2]) ++ List.replicate (3 - (lg_sl ([.ref h0, .int x1, .int x2])).length) Slot.unset).toArray = ls at hl ⊢
  have hl : lv_has ls 3 [(0, .ref h0), (1, .int x1), (2, .int x2)] := hl
  have B_17 : ∀ (cs1 : RS) , m_bounded_b17 F cs1 = some cs9 → ∀ (H : Heap) (locs : List Loc) (ls : Array Slot), va_P (dC, dI) vwCl (mW cB cI cJ cZ h0 a cs1) H → va_D A (mW cB cI cJ cZ h0 a cs1) → va_S A s.heap H locs → lv_has ls 3 [] → W p l e (headSpec (wsOf yX12_bounded cX12_bounded 3 none) ({ frames := 1, cells := 0, slots := 0, locals := 60 * (1) } : Room)).room s m ([.ref h0, .int x1, .int x2] : List Value).toArray below meth c H locs 0 0 (MQ below (va_Qv (fun (_ : Unit) => True) (fun _ t_ => va_P (dC, dI) vwCl (mW cB cI cJ cZ h0 a cs9) t_.heap ∧ va_D A (mW cB cI cJ cZ h0 a cs9)) A) ([.ref h0, .int x1, .int x2] : List Value).toArray s 0 0 A) (F0 m 17 ls []) := by
    intro cs1  h H locs ls hP hD hS hl
    unfold m_bounded_b17 at h
    have e1 := Option.some.inj h
    rw [e1] at hP hD
    exact W.vret hx hb hr (fun t_ ht hW => ⟨⟨(), rfl, trivial, by rw [ht]; exact hP, hD⟩, hS.F ht⟩) hS.2.2 dX12_bounded_17
  have h := hf
  unfold m_bounded at h
  refine lv_iload_n hx hb dX12_bounded_0 rfl (lv_at hl 1 rfl) ?_
  refine lv_if_ne (tgt := 17) hx hb dX12_bounded_1 (by decide) (fun c_1 => ?_) (fun c_1 => ?_)
  · skip
    replace h := (if_neg c_1).symm.trans h
    exact B_17 cs h _ _ _ hP hD hS (lv_sub hl [] rfl)
  · skip
    replace h := (if_pos c_1).symm.trans h
    refine lv_aload_n hx hb dX12_bounded_4 rfl (lv_at hl 0 rfl) ?_
    refine fg_75 hx hb hts hown hK hP dX12_bounded_5 ?_
    refine lv_if_ne (tgt := 17) hx hb dX12_bounded_8 (by decide) (fun c_2 => ?_) (fun c_2 => ?_)
    · skip
      replace h := (if_neg c_2).symm.trans h
      exact B_17 cs h _ _ _ hP hD hS (lv_sub hl [] rfl)
    · skip
      replace h := (if_pos c_2).symm.trans h
      refine lv_aload_n hx hb dX12_bounded_11 rfl (lv_at hl 0 rfl) ?_
      refine lv_iconst (v := 5) hx hb dX12_bounded_12 (by decide) ?_
      refine lv_iload_n hx hb dX12_bounded_13 rfl (lv_at hl 2 rfl) ?_
      obtain ⟨cs_3, hv_3, h⟩ := ob h
      refine calV (As := [.int 5, .int x2]) hx hb hml hts hown hK hP hD hS hA hZ (s_tell l dC dI cB cI cJ cZ h0 a K V fz F cs 5 x2 cs_3 hv_3) (cw_tell hts (fr := 0) (Nat.le_of_ble_eq_true rfl) (Nat.le_of_ble_eq_true rfl)) rfl hl.1 (Nat.le_of_ble_eq_true rfl) ⟨Nat.zero_le _, Nat.zero_le _⟩ dX12_bounded_14 (fun H locs hP hD hS => ?_)
      exact B_17 cs_3 h _ _ _ hP hD hS (lv_sub hl [] rfl)
theorem cw_bounded {R : Room} {s : State} {args : Array Value} {y0 : MethodName} {c0 : ByteArray} {n0 : Nat} {r0 : Option FieldType} (hts : ∀ w ∈ wsOf y0 c0 n0 r0, w.before args s = true) {fr : Nat} (h1 : fr + 1 ≤ R.frames) (h2 : 8 + (3 + 11) + 60 * fr ≤ R.locals) : CallW R s args RX12 RX12 558 yX12_bounded cX12_bounded 3 none (wsOf yX12_bounded cX12_bounded 3 none) ({ frames := fr, cells := 0, slots := 0, locals := 60 * fr } : Room) 0 0 2 := cwV 2 hts (gd_all (in_V kw_2427 kw_2429 kw_170 kw_191 kc_X12_bounded)) rfl rfl rfl (by decide +kernel) ⟨h1, h2⟩
theorem dX12_sourcesOf_0 : decode cX12_sourcesOf 0 = .ok (.aload_n 0, 1) := by decide +kernel
theorem dX12_sourcesOf_1 : decode cX12_sourcesOf 1 = .ok (.iconst 0, 1) := by decide +kernel
theorem dX12_sourcesOf_2 : decode cX12_sourcesOf 2 = .ok (.putfield 512, 3) := by decide +kernel
theorem dX12_sourcesOf_5 : decode cX12_sourcesOf 5 = .ok (.aload_n 0, 1) := by decide +kernel
theorem dX12_sourcesOf_6 : decode cX12_sourcesOf 6 = .ok (.iload_n 1, 1) := by decide +kernel
theorem dX12_sourcesOf_7 : decode cX12_sourcesOf 7 = .ok (.putfield 518, 3) := by decide +kernel
theorem dX12_sourcesOf_10 : decode cX12_sourcesOf 10 = .ok (.aload_n 0, 1) := by decide +kernel
theorem dX12_sourcesOf_11 : decode cX12_sourcesOf 11 = .ok (.iload_n 2, 1) := by decide +kernel
theorem dX12_sourcesOf_12 : decode cX12_sourcesOf 12 = .ok (.putfield 515, 3) := by decide +kernel
theorem dX12_sourcesOf_15 : decode cX12_sourcesOf 15 = .ok (.return_, 1) := by decide +kernel
def m_sourcesOf (F : Nat) (cs : RS) (x1 : Int32) (x2 : Int32) : Option RS := some (setF (setF (setF cs 76 0) 77 x1) 78 x2)
set_option maxHeartbeats 4000000 in
set_option maxRecDepth 100000 in
theorem s_sourcesOf (l : Launch) (dC : Nat → ClassId) (dI : Nat → Nat → Nat) (cB cI cJ cZ : ClassId) (h0 : Nat) (a : Nat → Nat) (K V : Nat → Nat) (fz : Value) (F : Nat) (cs : RS) (x1 : Int32) (x2 : Int32) (cs9 : RS) (hf : m_sourcesOf F cs x1 x2 = some cs9) : okV l dC dI cB cI cJ cZ h0 a K V fz yX12_sourcesOf (wsOf yX12_sourcesOf cX12_sourcesOf 3 none) (0) [.ref h0, .int x1, .int x2] cs cs9 := by
  intro sz
  refine Met.ofW (cc := cX12_sourcesOf) (maxL := 3) (ret := none) (by decide) rfl ?_
  intro p e s m args below meth c s₁ B hml hv
  obtain ⟨rfl, hsz, hP, hK, hD0, hZ⟩ := hv
  have hx := B.exec
  have hb := B.bytes
  have hr := B.returns
  have hts := atoms_spec (ws := (wsOf yX12_sourcesOf cX12_sourcesOf 3 none)) B.pre
  have hown : s.vm.findClass RX12 = some m.cls := findClass_of_methodNamed B.named
  have hlocks := B.notSynchronized
  subst hsz
  have hD := hD0.self (sz := s.heap.size)
  generalize hAe : va_A (mW cB cI cJ cZ h0 a cs) s.heap.size = A at hD hZ ⊢
  have hA : ∀ q : Nat, s.heap.size ≤ q → A q := fun q h => by rw [← hAe]; exact Or.inr h
  have hS : va_S A s.heap s.heap [] := va_S.rf
  have hl := lv_entry ([.ref h0, .int x1, .int x2]) (n := 3) (Nat.le_of_ble_eq_true rfl)
  rw [lg_entry_eq]
  generalize (lg_sl ([.ref h0, .int x1, .int x2]) ++ List.replicate (3 - (lg_sl ([.ref h0, .int x1, .int x2])).length) Slot.unset).toArray = ls at hl ⊢
  have hl : lv_has ls 3 [(0, .ref h0), (1, .int x1), (2, .int x2)] := hl
  have h := hf
  unfold m_sourcesOf at h
  refine lv_aload_n hx hb dX12_sourcesOf_0 rfl (lv_at hl 0 rfl) ?_
  refine lv_iconst (v := 0) hx hb dX12_sourcesOf_1 (by decide) ?_
  refine fp_76 hx hb hts hown hK hP hD hS dX12_sourcesOf_2 (fun H locs hP hD hS => ?_)
  refine lv_aload_n hx hb dX12_sourcesOf_5 rfl (lv_at hl 0 rfl) ?_
  refine lv_iload_n hx hb dX12_sourcesOf_6 rfl (lv_at hl 1 rfl) ?_
  refine fp_77 hx hb hts hown hK hP hD hS dX12_sourcesOf_7 (fun H locs hP hD hS => ?_)
  refine lv_aload_n hx hb dX12_sourcesOf_10 rfl (lv_at hl 0 rfl) ?_
  refine lv_iload_n hx hb dX12_sourcesOf_11 rfl (lv_at hl 2 rfl) ?_
  refine fp_78 hx hb hts hown hK hP hD hS dX12_sourcesOf_12 (fun H locs hP hD hS => ?_)
  have e1 := Option.some.inj h
  rw [e1] at hP hD
  exact W.vret hx hb hr (fun t_ ht hW => ⟨⟨(), rfl, trivial, by rw [ht]; exact hP, hD⟩, hS.F ht⟩) hS.2.2 dX12_sourcesOf_15
theorem cw_sourcesOf {R : Room} {s : State} {args : Array Value} {y0 : MethodName} {c0 : ByteArray} {n0 : Nat} {r0 : Option FieldType} (hts : ∀ w ∈ wsOf y0 c0 n0 r0, w.before args s = true) {fr : Nat} (h1 : fr + 1 ≤ R.frames) (h2 : 8 + (3 + 11) + 60 * fr ≤ R.locals) : CallW R s args RX12 RX12 568 yX12_sourcesOf cX12_sourcesOf 3 none (wsOf yX12_sourcesOf cX12_sourcesOf 3 none) ({ frames := fr, cells := 0, slots := 0, locals := 60 * fr } : Room) 0 0 2 := cwV 2 hts (gd_all (in_V kw_2431 kw_2433 kw_171 kw_191 kc_X12_sourcesOf)) rfl rfl rfl (by decide +kernel) ⟨h1, h2⟩
theorem dX12_fault_0 : decode cX12_fault 0 = .ok (.aload_n 0, 1) := by decide +kernel
theorem dX12_fault_1 : decode cX12_fault 1 = .ok (.getfield 581, 3) := by decide +kernel
theorem dX12_fault_4 : decode cX12_fault 4 = .ok (.ireturn, 1) := by decide +kernel
def m_fault (F : Nat) (cs : RS) : Option Int32 := some (cs.1 82)
set_option maxHeartbeats 4000000 in
set_option maxRecDepth 100000 in
theorem s_fault (l : Launch) (dC : Nat → ClassId) (dI : Nat → Nat → Nat) (cB cI cJ cZ : ClassId) (h0 : Nat) (a : Nat → Nat) (K V : Nat → Nat) (fz : Value) (F : Nat) (cs : RS) (r9 : Int32) (hf : m_fault F cs = some r9) : okI l dC dI cB cI cJ cZ h0 a K V fz yX12_fault (wsOf yX12_fault cX12_fault 1 (some .int)) (0) [.ref h0] cs cs r9 := by
  intro sz
  refine Met.ofW (cc := cX12_fault) (maxL := 1) (ret := (some .int)) (by decide) rfl ?_
  intro p e s m args below meth c s₁ B hml hv
  obtain ⟨rfl, hsz, hP, hK, hD0, hZ⟩ := hv
  have hx := B.exec
  have hb := B.bytes
  have hr := B.returns
  have hts := atoms_spec (ws := (wsOf yX12_fault cX12_fault 1 (some .int))) B.pre
  have hown : s.vm.findClass RX12 = some m.cls := findClass_of_methodNamed B.named
  have hlocks := B.notSynchronized
  subst hsz
  have hD := hD0.self (sz := s.heap.size)
  generalize hAe : va_A (mW cB cI cJ cZ h0 a cs) s.heap.size = A at hD hZ ⊢
  have hA : ∀ q : Nat, s.heap.size ≤ q → A q := fun q h => by rw [← hAe]; exact Or.inr h
  have hS : va_S A s.heap s.heap [] := va_S.rf
  have hl := lv_entry ([.ref h0]) (n := 1) (Nat.le_of_ble_eq_true rfl)
  rw [lg_entry_eq]
  generalize (lg_sl ([.ref h0]) ++ List.replicate (1 - (lg_sl ([.ref h0])).length) Slot.unset).toArray = ls at hl ⊢
  have hl : lv_has ls 1 [(0, .ref h0)] := hl
  have h := hf
  unfold m_fault at h
  refine lv_aload_n hx hb dX12_fault_0 rfl (lv_at hl 0 rfl) ?_
  refine fg_82 hx hb hts hown hK hP dX12_fault_1 ?_
  have e2 := Option.some.inj h
  exact W.iret (v := cs.1 82) hx hb hr (fun t_ ht hW => ⟨⟨cs.1 82, (), rfl, e2, by rw [ht]; exact hP, hD⟩, hS.F ht⟩) hS.2.2 dX12_fault_4
theorem dX12_changes_0 : decode cX12_changes 0 = .ok (.aload_n 0, 1) := by decide +kernel
theorem dX12_changes_1 : decode cX12_changes 1 = .ok (.getfield 271, 3) := by decide +kernel
theorem dX12_changes_4 : decode cX12_changes 4 = .ok (.ireturn, 1) := by decide +kernel
def m_changes (F : Nat) (cs : RS) : Option Int32 := some (cs.1 110)
set_option maxHeartbeats 4000000 in
set_option maxRecDepth 100000 in
theorem s_changes (l : Launch) (dC : Nat → ClassId) (dI : Nat → Nat → Nat) (cB cI cJ cZ : ClassId) (h0 : Nat) (a : Nat → Nat) (K V : Nat → Nat) (fz : Value) (F : Nat) (cs : RS) (r9 : Int32) (hf : m_changes F cs = some r9) : okI l dC dI cB cI cJ cZ h0 a K V fz yX12_changes (wsOf yX12_changes cX12_changes 1 (some .int)) (0) [.ref h0] cs cs r9 := by
  intro sz
  refine Met.ofW (cc := cX12_changes) (maxL := 1) (ret := (some .int)) (by decide) rfl ?_
  intro p e s m args below meth c s₁ B hml hv
  obtain ⟨rfl, hsz, hP, hK, hD0, hZ⟩ := hv
  have hx := B.exec
  have hb := B.bytes
  have hr := B.returns
  have hts := atoms_spec (ws := (wsOf yX12_changes cX12_changes 1 (some .int))) B.pre
  have hown : s.vm.findClass RX12 = some m.cls := findClass_of_methodNamed B.named
  have hlocks := B.notSynchronized
  subst hsz
  have hD := hD0.self (sz := s.heap.size)
  generalize hAe : va_A (mW cB cI cJ cZ h0 a cs) s.heap.size = A at hD hZ ⊢
  have hA : ∀ q : Nat, s.heap.size ≤ q → A q := fun q h => by rw [← hAe]; exact Or.inr h
  have hS : va_S A s.heap s.heap [] := va_S.rf
  have hl := lv_entry ([.ref h0]) (n := 1) (Nat.le_of_ble_eq_true rfl)
  rw [lg_entry_eq]
  generalize (lg_sl ([.ref h0]) ++ List.replicate (1 - (lg_sl ([.ref h0])).length) Slot.unset).toArray = ls at hl ⊢
  have hl : lv_has ls 1 [(0, .ref h0)] := hl
  have h := hf
  unfold m_changes at h
  refine lv_aload_n hx hb dX12_changes_0 rfl (lv_at hl 0 rfl) ?_
  refine fg_110 hx hb hts hown hK hP dX12_changes_1 ?_
  have e2 := Option.some.inj h
  exact W.iret (v := cs.1 110) hx hb hr (fun t_ ht hW => ⟨⟨cs.1 110, (), rfl, e2, by rw [ht]; exact hP, hD⟩, hS.F ht⟩) hS.2.2 dX12_changes_4
theorem dX12_isChange_0 : decode cX12_isChange 0 = .ok (.iload_n 1, 1) := by decide +kernel
theorem dX12_isChange_1 : decode cX12_isChange 1 = .ok (.ifCond .lt 27, 3) := by decide +kernel
theorem dX12_isChange_4 : decode cX12_isChange 4 = .ok (.iload_n 1, 1) := by decide +kernel
theorem dX12_isChange_5 : decode cX12_isChange 5 = .ok (.aload_n 0, 1) := by decide +kernel
theorem dX12_isChange_6 : decode cX12_isChange 6 = .ok (.getfield 271, 3) := by decide +kernel
theorem dX12_isChange_9 : decode cX12_isChange 9 = .ok (.if_icmp .ge 19, 3) := by decide +kernel
theorem dX12_isChange_12 : decode cX12_isChange 12 = .ok (.iload_n 2, 1) := by decide +kernel
theorem dX12_isChange_13 : decode cX12_isChange 13 = .ok (.ifCond .lt 15, 3) := by decide +kernel
theorem dX12_isChange_16 : decode cX12_isChange 16 = .ok (.iload_n 2, 1) := by decide +kernel
theorem dX12_isChange_17 : decode cX12_isChange 17 = .ok (.aload_n 0, 1) := by decide +kernel
theorem dX12_isChange_18 : decode cX12_isChange 18 = .ok (.getfield 719, 3) := by decide +kernel
theorem dX12_isChange_21 : decode cX12_isChange 21 = .ok (.if_icmp .ge 7, 3) := by decide +kernel
theorem dX12_isChange_24 : decode cX12_isChange 24 = .ok (.iconst 1, 1) := by decide +kernel
theorem dX12_isChange_25 : decode cX12_isChange 25 = .ok (.goto 4, 3) := by decide +kernel
theorem dX12_isChange_28 : decode cX12_isChange 28 = .ok (.iconst 0, 1) := by decide +kernel
theorem dX12_isChange_29 : decode cX12_isChange 29 = .ok (.ireturn, 1) := by decide +kernel
def m_isChange_b29 (F : Nat) (cs : RS) (y0 : Int32) : Option Int32 := Option.bind (ckZ y0) fun _ => some y0
def m_isChange_b28 (F : Nat) (cs : RS) : Option Int32 := m_isChange_b29 F cs 0
def m_isChange (F : Nat) (cs : RS) (x1 : Int32) (x2 : Int32) : Option Int32 := if x1 < 0 then (m_isChange_b28 F cs ) else (if (cs.1 110) ≤ x1 then (m_isChange_b28 F cs ) else (if x2 < 0 then (m_isChange_b28 F cs ) else (if (cs.1 101) ≤ x2 then (m_isChange_b28 F cs ) else (m_isChange_b29 F cs 1))))
set_option maxHeartbeats 4000000 in
set_option maxRecDepth 100000 in
theorem s_isChange (l : Launch) (dC : Nat → ClassId) (dI : Nat → Nat → Nat) (cB cI cJ cZ : ClassId) (h0 : Nat) (a : Nat → Nat) (K V : Nat → Nat) (fz : Value) (F : Nat) (cs : RS) (x1 : Int32) (x2 : Int32) (r9 : Int32) (hf : m_isChange F cs x1 x2 = some r9) : okI l dC dI cB cI cJ cZ h0 a K V fz yX12_isChange (wsOf yX12_isChange cX12_isChange 3 (some .boolean)) (0) [.ref h0, .int x1, .int x2] cs cs r9 := by
  intro sz
  refine Met.ofW (cc := cX12_isChange) (maxL := 3) (ret := (some .boolean)) (by decide) rfl ?_
  intro p e s m args below meth c s₁ B hml hv
  obtain ⟨rfl, hsz, hP, hK, hD0, hZ⟩ := hv
  have hx := B.exec
  have hb := B.bytes
  have hr := B.returns
  have hts := atoms_spec (ws := (wsOf yX12_isChange cX12_isChange 3 (some .boolean))) B.pre
  have hown : s.vm.findClass RX12 = some m.cls := findClass_of_methodNamed B.named
  have hlocks := B.notSynchronized
  subst hsz
  have hD := hD0.self (sz := s.heap.size)
  generalize hAe : va_A (mW cB cI cJ cZ h0 a cs) s.heap.size = A at hD hZ ⊢
  have hA : ∀ q : Nat, s.heap.size ≤ q → A q := fun q h => by rw [← hAe]; exact Or.inr h
  have hS : va_S A s.heap s.heap [] := va_S.rf
  have hl := lv_entry ([.ref h0, .int x1, .int x2]) (n := 3) (Nat.le_of_ble_eq_true rfl)
  rw [lg_entry_eq]
  generalize (lg_sl ([.ref h0, .int x1, .int x2]) ++ List.replicate (3 - (lg_sl ([.ref h0, .int x1, .int x2])).length) Slot.unset).toArray = ls at hl ⊢
  have hl : lv_has ls 3 [(0, .ref h0), (1, .int x1), (2, .int x2)] := hl
  have B_29 : ∀ (y0 : Int32), m_isChange_b29 F cs y0 = some r9 → ∀ (H : Heap) (locs : List Loc) (ls : Array Slot), va_P (dC, dI) vwCl (mW cB cI cJ cZ h0 a cs) H → va_D A (mW cB cI cJ cZ h0 a cs) → va_S A s.heap H locs → lv_has ls 3 [] → W p l e (headSpec (wsOf yX12_isChange cX12_isChange 3 (some .boolean)) ({ frames := 0, cells := 0, slots := 0, locals := 60 * (0) } : Room)).room s m ([.ref h0, .int x1, .int x2] : List Value).toArray below meth c H locs 0 0 (MQ below (va_Qi (fun (x : Int32) (_ : Unit) => x = r9) (fun _ t_ => va_P (dC, dI) vwCl (mW cB cI cJ cZ h0 a cs) t_.heap ∧ va_D A (mW cB cI cJ cZ h0 a cs)) A) ([.ref h0, .int x1, .int x2] : List Value).toArray s 0 0 A) (F0 m 29 ls [.int y0]) := by
    intro y0 h H locs ls hP hD hS hl
    unfold m_isChange_b29 at h
    obtain ⟨w_1, hw_1, h⟩ := ob h
    have e2 := Option.some.inj h
    exact W.zret (v := y0) hx hb hr (nzN (ckZ_some hw_1)) (fun t_ ht hW => ⟨⟨y0, (), rfl, e2, by rw [ht]; exact hP, hD⟩, hS.F ht⟩) hS.2.2 dX12_isChange_29
  have B_28 : m_isChange_b28 F cs = some r9 → ∀ (H : Heap) (locs : List Loc) (ls : Array Slot), va_P (dC, dI) vwCl (mW cB cI cJ cZ h0 a cs) H → va_D A (mW cB cI cJ cZ h0 a cs) → va_S A s.heap H locs → lv_has ls 3 [] → W p l e (headSpec (wsOf yX12_isChange cX12_isChange 3 (some .boolean)) ({ frames := 0, cells := 0, slots := 0, locals := 60 * (0) } : Room)).room s m ([.ref h0, .int x1, .int x2] : List Value).toArray below meth c H locs 0 0 (MQ below (va_Qi (fun (x : Int32) (_ : Unit) => x = r9) (fun _ t_ => va_P (dC, dI) vwCl (mW cB cI cJ cZ h0 a cs) t_.heap ∧ va_D A (mW cB cI cJ cZ h0 a cs)) A) ([.ref h0, .int x1, .int x2] : List Value).toArray s 0 0 A) (F0 m 28 ls []) := by
    intro  h H locs ls hP hD hS hl
    unfold m_isChange_b28 at h
    refine lv_iconst (v := 0) hx hb dX12_isChange_28 (by decide) ?_
    exact B_29 0 h _ _ _ hP hD hS (lv_sub hl [] rfl)
  have h := hf
  unfold m_isChange at h
  refine lv_iload_n hx hb dX12_isChange_0 rfl (lv_at hl 1 rfl) ?_
  refine lv_if_lt (tgt := 28) hx hb dX12_isChange_1 (by decide) (fun c_2 => ?_) (fun c_2 => ?_)
  · skip
    replace h := (if_pos c_2).symm.trans h
    exact B_28  h _ _ _ hP hD hS (lv_sub hl [] rfl)
  · skip
    replace h := (if_neg c_2).symm.trans h
    refine lv_iload_n hx hb dX12_isChange_4 rfl (lv_at hl 1 rfl) ?_
    refine lv_aload_n hx hb dX12_isChange_5 rfl (lv_at hl 0 rfl) ?_
    refine fg_110 hx hb hts hown hK hP dX12_isChange_6 ?_
    refine lv_icmp_ge (tgt := 28) hx hb dX12_isChange_9 (by decide) (fun c_3 => ?_) (fun c_3 => ?_)
    · skip
      replace h := (if_pos c_3).symm.trans h
      exact B_28  h _ _ _ hP hD hS (lv_sub hl [] rfl)
    · skip
      replace h := (if_neg c_3).symm.trans h
      refine lv_iload_n hx hb dX12_isChange_12 rfl (lv_at hl 2 rfl) ?_
      refine lv_if_lt (tgt := 28) hx hb dX12_isChange_13 (by decide) (fun c_4 => ?_) (fun c_4 => ?_)
      · skip
        replace h := (if_pos c_4).symm.trans h
        exact B_28  h _ _ _ hP hD hS (lv_sub hl [] rfl)
      · skip
        replace h := (if_neg c_4).symm.trans h
        refine lv_iload_n hx hb dX12_isChange_16 rfl (lv_at hl 2 rfl) ?_
        refine lv_aload_n hx hb dX12_isChange_17 rfl (lv_at hl 0 rfl) ?_
        refine fg_101 hx hb hts hown hK hP dX12_isChange_18 ?_
        refine lv_icmp_ge (tgt := 28) hx hb dX12_isChange_21 (by decide) (fun c_5 => ?_) (fun c_5 => ?_)
        · skip
          replace h := (if_pos c_5).symm.trans h
          exact B_28  h _ _ _ hP hD hS (lv_sub hl [] rfl)
        · skip
          replace h := (if_neg c_5).symm.trans h
          refine lv_iconst (v := 1) hx hb dX12_isChange_24 (by decide) ?_
          refine lv_goto (tgt := 29) hx hb dX12_isChange_25 (by decide) ?_
          exact B_29 1 h _ _ _ hP hD hS (lv_sub hl [] rfl)
theorem cw_isChange {R : Room} {s : State} {args : Array Value} {y0 : MethodName} {c0 : ByteArray} {n0 : Nat} {r0 : Option FieldType} (hts : ∀ w ∈ wsOf y0 c0 n0 r0, w.before args s = true) {fr : Nat} (h1 : fr + 1 ≤ R.frames) (h2 : 8 + (3 + 11) + 60 * fr ≤ R.locals) : CallW R s args RX12 RX12 737 yX12_isChange cX12_isChange 3 (some .boolean) (wsOf yX12_isChange cX12_isChange 3 (some .boolean)) ({ frames := fr, cells := 0, slots := 0, locals := 60 * fr } : Room) 0 0 2 := cwV 2 hts (gd_all (in_V kw_2475 kw_2477 kw_178 kw_191 kc_X12_isChange)) rfl rfl rfl (by decide +kernel) ⟨h1, h2⟩
theorem dX12_change_0 : decode cX12_change 0 = .ok (.iload_n 1, 1) := by decide +kernel
theorem dX12_change_1 : decode cX12_change 1 = .ok (.ifCond .lt 20, 3) := by decide +kernel
theorem dX12_change_4 : decode cX12_change 4 = .ok (.iload_n 1, 1) := by decide +kernel
theorem dX12_change_5 : decode cX12_change 5 = .ok (.aload_n 0, 1) := by decide +kernel
theorem dX12_change_6 : decode cX12_change 6 = .ok (.getfield 271, 3) := by decide +kernel
theorem dX12_change_9 : decode cX12_change 9 = .ok (.if_icmp .ge 12, 3) := by decide +kernel
theorem dX12_change_12 : decode cX12_change 12 = .ok (.aload_n 0, 1) := by decide +kernel
theorem dX12_change_13 : decode cX12_change 13 = .ok (.getfield 233, 3) := by decide +kernel
theorem dX12_change_16 : decode cX12_change 16 = .ok (.iload_n 1, 1) := by decide +kernel
theorem dX12_change_17 : decode cX12_change 17 = .ok (.iaload, 1) := by decide +kernel
theorem dX12_change_18 : decode cX12_change 18 = .ok (.goto 4, 3) := by decide +kernel
theorem dX12_change_21 : decode cX12_change 21 = .ok (.iconst 0, 1) := by decide +kernel
theorem dX12_change_22 : decode cX12_change 22 = .ok (.ireturn, 1) := by decide +kernel
def m_change_b22 (F : Nat) (cs : RS) (y0 : Int32) : Option Int32 := some y0
def m_change_b21 (F : Nat) (cs : RS) : Option Int32 := m_change_b22 F cs 0
def m_change (F : Nat) (cs : RS) (x1 : Int32) : Option Int32 := if x1 < 0 then (m_change_b21 F cs ) else (if (cs.1 110) ≤ x1 then (m_change_b21 F cs ) else (Option.bind (rdI (cs.2.2.1 111) 1300 x1) fun v_3 => m_change_b22 F cs v_3))
set_option maxHeartbeats 4000000 in
set_option maxRecDepth 100000 in
theorem s_change (l : Launch) (dC : Nat → ClassId) (dI : Nat → Nat → Nat) (cB cI cJ cZ : ClassId) (h0 : Nat) (a : Nat → Nat) (K V : Nat → Nat) (fz : Value) (F : Nat) (cs : RS) (x1 : Int32) (r9 : Int32) (hf : m_change F cs x1 = some r9) : okI l dC dI cB cI cJ cZ h0 a K V fz yX12_change (wsOf yX12_change cX12_change 2 (some .int)) (0) [.ref h0, .int x1] cs cs r9 := by
  intro sz
  refine Met.ofW (cc := cX12_change) (maxL := 2) (ret := (some .int)) (by decide) rfl ?_
  intro p e s m args below meth c s₁ B hml hv
  obtain ⟨rfl, hsz, hP, hK, hD0, hZ⟩ := hv
  have hx := B.exec
  have hb := B.bytes
  have hr := B.returns
  have hts := atoms_spec (ws := (wsOf yX12_change cX12_change 2 (some .int))) B.pre
  have hown : s.vm.findClass RX12 = some m.cls := findClass_of_methodNamed B.named
  have hlocks := B.notSynchronized
  subst hsz
  have hD := hD0.self (sz := s.heap.size)
  generalize hAe : va_A (mW cB cI cJ cZ h0 a cs) s.heap.size = A at hD hZ ⊢
  have hA : ∀ q : Nat, s.heap.size ≤ q → A q := fun q h => by rw [← hAe]; exact Or.inr h
  have hS : va_S A s.heap s.heap [] := va_S.rf
  have hl := lv_entry ([.ref h0, .int x1]) (n := 2) (Nat.le_of_ble_eq_true rfl)
  rw [lg_entry_eq]
  generalize (lg_sl ([.ref h0, .int x1]) ++ List.replicate (2 - (lg_sl ([.ref h0, .int x1])).length) Slot.unset).toArray = ls at hl ⊢
  have hl : lv_has ls 2 [(0, .ref h0), (1, .int x1)] := hl
  have B_22 : ∀ (y0 : Int32), m_change_b22 F cs y0 = some r9 → ∀ (H : Heap) (locs : List Loc) (ls : Array Slot), va_P (dC, dI) vwCl (mW cB cI cJ cZ h0 a cs) H → va_D A (mW cB cI cJ cZ h0 a cs) → va_S A s.heap H locs → lv_has ls 2 [] → W p l e (headSpec (wsOf yX12_change cX12_change 2 (some .int)) ({ frames := 0, cells := 0, slots := 0, locals := 60 * (0) } : Room)).room s m ([.ref h0, .int x1] : List Value).toArray below meth c H locs 0 0 (MQ below (va_Qi (fun (x : Int32) (_ : Unit) => x = r9) (fun _ t_ => va_P (dC, dI) vwCl (mW cB cI cJ cZ h0 a cs) t_.heap ∧ va_D A (mW cB cI cJ cZ h0 a cs)) A) ([.ref h0, .int x1] : List Value).toArray s 0 0 A) (F0 m 22 ls [.int y0]) := by
    intro y0 h H locs ls hP hD hS hl
    unfold m_change_b22 at h
    have e2 := Option.some.inj h
    exact W.iret (v := y0) hx hb hr (fun t_ ht hW => ⟨⟨y0, (), rfl, e2, by rw [ht]; exact hP, hD⟩, hS.F ht⟩) hS.2.2 dX12_change_22
  have B_21 : m_change_b21 F cs = some r9 → ∀ (H : Heap) (locs : List Loc) (ls : Array Slot), va_P (dC, dI) vwCl (mW cB cI cJ cZ h0 a cs) H → va_D A (mW cB cI cJ cZ h0 a cs) → va_S A s.heap H locs → lv_has ls 2 [] → W p l e (headSpec (wsOf yX12_change cX12_change 2 (some .int)) ({ frames := 0, cells := 0, slots := 0, locals := 60 * (0) } : Room)).room s m ([.ref h0, .int x1] : List Value).toArray below meth c H locs 0 0 (MQ below (va_Qi (fun (x : Int32) (_ : Unit) => x = r9) (fun _ t_ => va_P (dC, dI) vwCl (mW cB cI cJ cZ h0 a cs) t_.heap ∧ va_D A (mW cB cI cJ cZ h0 a cs)) A) ([.ref h0, .int x1] : List Value).toArray s 0 0 A) (F0 m 21 ls []) := by
    intro  h H locs ls hP hD hS hl
    unfold m_change_b21 at h
    refine lv_iconst (v := 0) hx hb dX12_change_21 (by decide) ?_
    exact B_22 0 h _ _ _ hP hD hS (lv_sub hl [] rfl)
  have h := hf
  unfold m_change at h
  refine lv_iload_n hx hb dX12_change_0 rfl (lv_at hl 1 rfl) ?_
  refine lv_if_lt (tgt := 21) hx hb dX12_change_1 (by decide) (fun c_1 => ?_) (fun c_1 => ?_)
  · skip
    replace h := (if_pos c_1).symm.trans h
    exact B_21  h _ _ _ hP hD hS (lv_sub hl [] rfl)
  · skip
    replace h := (if_neg c_1).symm.trans h
    refine lv_iload_n hx hb dX12_change_4 rfl (lv_at hl 1 rfl) ?_
    refine lv_aload_n hx hb dX12_change_5 rfl (lv_at hl 0 rfl) ?_
    refine fg_110 hx hb hts hown hK hP dX12_change_6 ?_
    refine lv_icmp_ge (tgt := 21) hx hb dX12_change_9 (by decide) (fun c_2 => ?_) (fun c_2 => ?_)
    · skip
      replace h := (if_pos c_2).symm.trans h
      exact B_21  h _ _ _ hP hD hS (lv_sub hl [] rfl)
    · skip
      replace h := (if_neg c_2).symm.trans h
      refine lv_aload_n hx hb dX12_change_12 rfl (lv_at hl 0 rfl) ?_
      refine fg_111 hx hb hts hown hK hP dX12_change_13 ?_
      refine lv_iload_n hx hb dX12_change_16 rfl (lv_at hl 1 rfl) ?_
      obtain ⟨v_3, hv_3, h⟩ := ob h
      refine ag_111 hx hb hK hP hv_3 dX12_change_17 ?_
      refine lv_goto (tgt := 22) hx hb dX12_change_18 (by decide) ?_
      exact B_22 v_3 h _ _ _ hP hD hS (lv_sub hl [] rfl)
theorem dX12_changed_0 : decode cX12_changed 0 = .ok (.aload_n 0, 1) := by decide +kernel
theorem dX12_changed_1 : decode cX12_changed 1 = .ok (.iload_n 1, 1) := by decide +kernel
theorem dX12_changed_2 : decode cX12_changed 2 = .ok (.iload_n 2, 1) := by decide +kernel
theorem dX12_changed_3 : decode cX12_changed 3 = .ok (.invokevirtual 737, 3) := by decide +kernel
theorem dX12_changed_6 : decode cX12_changed 6 = .ok (.ifCond .eq 19, 3) := by decide +kernel
theorem dX12_changed_9 : decode cX12_changed 9 = .ok (.aload_n 0, 1) := by decide +kernel
theorem dX12_changed_10 : decode cX12_changed 10 = .ok (.getfield 236, 3) := by decide +kernel
theorem dX12_changed_13 : decode cX12_changed 13 = .ok (.aload_n 0, 1) := by decide +kernel
theorem dX12_changed_14 : decode cX12_changed 14 = .ok (.getfield 719, 3) := by decide +kernel
theorem dX12_changed_17 : decode cX12_changed 17 = .ok (.iload_n 1, 1) := by decide +kernel
theorem dX12_changed_18 : decode cX12_changed 18 = .ok (.imul, 1) := by decide +kernel
theorem dX12_changed_19 : decode cX12_changed 19 = .ok (.iload_n 2, 1) := by decide +kernel
theorem dX12_changed_20 : decode cX12_changed 20 = .ok (.iadd, 1) := by decide +kernel
theorem dX12_changed_21 : decode cX12_changed 21 = .ok (.laload, 1) := by decide +kernel
theorem dX12_changed_22 : decode cX12_changed 22 = .ok (.goto 4, 3) := by decide +kernel
theorem dX12_changed_25 : decode cX12_changed 25 = .ok (.lconst 0, 1) := by decide +kernel
theorem dX12_changed_26 : decode cX12_changed 26 = .ok (.lreturn, 1) := by decide +kernel
def m_changed_b26 (F : Nat) (cs : RS) (y0 : Int64) : Option Int64 := some y0
def m_changed (F : Nat) (cs : RS) (x1 : Int32) (x2 : Int32) : Option Int64 := Option.bind (m_isChange F cs x1 x2) fun v_1 => if v_1 = 0 then (m_changed_b26 F cs 0) else (Option.bind (rdL (cs.2.2.2 112) 10400 (((cs.1 101) * x1) + x2)) fun v_3 => m_changed_b26 F cs v_3)
set_option maxHeartbeats 4000000 in
set_option maxRecDepth 100000 in
theorem s_changed (l : Launch) (dC : Nat → ClassId) (dI : Nat → Nat → Nat) (cB cI cJ cZ : ClassId) (h0 : Nat) (a : Nat → Nat) (K V : Nat → Nat) (fz : Value) (F : Nat) (cs : RS) (x1 : Int32) (x2 : Int32) (r9 : Int64) (hf : m_changed F cs x1 x2 = some r9) : okL l dC dI cB cI cJ cZ h0 a K V fz yX12_changed (wsOf yX12_changed cX12_changed 3 (some .long)) (1) [.ref h0, .int x1, .int x2] cs cs r9 := by
  intro sz
  refine Met.ofW (cc := cX12_changed) (maxL := 3) (ret := (some .long)) (by decide) rfl ?_
  intro p e s m args below meth c s₁ B hml hv
  obtain ⟨rfl, hsz, hP, hK, hD0, hZ⟩ := hv
  have hx := B.exec
  have hb := B.bytes
  have hr := B.returns
  have hts := atoms_spec (ws := (wsOf yX12_changed cX12_changed 3 (some .long))) B.pre
  have hown : s.vm.findClass RX12 = some m.cls := findClass_of_methodNamed B.named
  have hlocks := B.notSynchronized
  subst hsz
  have hD := hD0.self (sz := s.heap.size)
  generalize hAe : va_A (mW cB cI cJ cZ h0 a cs) s.heap.size = A at hD hZ ⊢
  have hA : ∀ q : Nat, s.heap.size ≤ q → A q := fun q h => by rw [← hAe]; exact Or.inr h
  have hS : va_S A s.heap s.heap [] := va_S.rf
  have hl := lv_entry ([.ref h0, .int x1, .int x2]) (n := 3) (Nat.le_of_ble_eq_true rfl)
  rw [lg_entry_eq]
  generalize (lg_sl ([.ref h0, .int x1, .int x2]) ++ List.replicate (3 - (lg_sl ([.ref h0, .int x1, .int x2])).length) Slot.unset).toArray = ls at hl ⊢
  have hl : lv_has ls 3 [(0, .ref h0), (1, .int x1), (2, .int x2)] := hl
  have B_26 : ∀ (y0 : Int64), m_changed_b26 F cs y0 = some r9 → ∀ (H : Heap) (locs : List Loc) (ls : Array Slot), va_P (dC, dI) vwCl (mW cB cI cJ cZ h0 a cs) H → va_D A (mW cB cI cJ cZ h0 a cs) → va_S A s.heap H locs → lv_has ls 3 [] → W p l e (headSpec (wsOf yX12_changed cX12_changed 3 (some .long)) ({ frames := 1, cells := 0, slots := 0, locals := 60 * (1) } : Room)).room s m ([.ref h0, .int x1, .int x2] : List Value).toArray below meth c H locs 0 0 (MQ below (va_Ql (fun (x : Int64) (_ : Unit) => x = r9) (fun _ t_ => va_P (dC, dI) vwCl (mW cB cI cJ cZ h0 a cs) t_.heap ∧ va_D A (mW cB cI cJ cZ h0 a cs)) A) ([.ref h0, .int x1, .int x2] : List Value).toArray s 0 0 A) (F0 m 26 ls [.long y0]) := by
    intro y0 h H locs ls hP hD hS hl
    unfold m_changed_b26 at h
    have e2 := Option.some.inj h
    exact W.lret (v := y0) hx hb hr (fun t_ ht hW => ⟨⟨y0, (), rfl, e2, by rw [ht]; exact hP, hD⟩, hS.F ht⟩) hS.2.2 dX12_changed_26
  have h := hf
  unfold m_changed at h
  refine lv_aload_n hx hb dX12_changed_0 rfl (lv_at hl 0 rfl) ?_
  refine lv_iload_n hx hb dX12_changed_1 rfl (lv_at hl 1 rfl) ?_
  refine lv_iload_n hx hb dX12_changed_2 rfl (lv_at hl 2 rfl) ?_
  obtain ⟨v_1, hv_1, h⟩ := ob h
  refine calI (As := [.int x1, .int x2]) hx hb hml hts hown hK hP hD hS hA hZ (s_isChange l dC dI cB cI cJ cZ h0 a K V fz F cs x1 x2 v_1 hv_1) (cw_isChange hts (fr := 0) (Nat.le_of_ble_eq_true rfl) (Nat.le_of_ble_eq_true rfl)) rfl hl.1 (Nat.le_of_ble_eq_true rfl) ⟨Nat.zero_le _, Nat.zero_le _⟩ dX12_changed_3 (fun H locs hP hD hS => ?_)
  refine lv_if_eq (tgt := 25) hx hb dX12_changed_6 (by decide) (fun c_2 => ?_) (fun c_2 => ?_)
  · skip
    replace h := (if_pos c_2).symm.trans h
    refine lv_lconst (v := 0) hx hb dX12_changed_25 (by decide) ?_
    exact B_26 0 h _ _ _ hP hD hS (lv_sub hl [] rfl)
  · skip
    replace h := (if_neg c_2).symm.trans h
    refine lv_aload_n hx hb dX12_changed_9 rfl (lv_at hl 0 rfl) ?_
    refine fg_112 hx hb hts hown hK hP dX12_changed_10 ?_
    refine lv_aload_n hx hb dX12_changed_13 rfl (lv_at hl 0 rfl) ?_
    refine fg_101 hx hb hts hown hK hP dX12_changed_14 ?_
    refine lv_iload_n hx hb dX12_changed_17 rfl (lv_at hl 1 rfl) ?_
    refine lv_imul hx hb dX12_changed_18 ?_
    refine lv_iload_n hx hb dX12_changed_19 rfl (lv_at hl 2 rfl) ?_
    refine lv_iadd hx hb dX12_changed_20 ?_
    obtain ⟨v_3, hv_3, h⟩ := ob h
    refine ag_112 hx hb hK hP hv_3 dX12_changed_21 ?_
    refine lv_goto (tgt := 26) hx hb dX12_changed_22 (by decide) ?_
    exact B_26 v_3 h _ _ _ hP hD hS (lv_sub hl [] rfl)
theorem dX12_changedNull_0 : decode cX12_changedNull 0 = .ok (.aload_n 0, 1) := by decide +kernel
theorem dX12_changedNull_1 : decode cX12_changedNull 1 = .ok (.iload_n 1, 1) := by decide +kernel
theorem dX12_changedNull_2 : decode cX12_changedNull 2 = .ok (.iload_n 2, 1) := by decide +kernel
theorem dX12_changedNull_3 : decode cX12_changedNull 3 = .ok (.invokevirtual 737, 3) := by decide +kernel
theorem dX12_changedNull_6 : decode cX12_changedNull 6 = .ok (.ifCond .eq 23, 3) := by decide +kernel
theorem dX12_changedNull_9 : decode cX12_changedNull 9 = .ok (.aload_n 0, 1) := by decide +kernel
theorem dX12_changedNull_10 : decode cX12_changedNull 10 = .ok (.getfield 239, 3) := by decide +kernel
theorem dX12_changedNull_13 : decode cX12_changedNull 13 = .ok (.aload_n 0, 1) := by decide +kernel
theorem dX12_changedNull_14 : decode cX12_changedNull 14 = .ok (.getfield 719, 3) := by decide +kernel
theorem dX12_changedNull_17 : decode cX12_changedNull 17 = .ok (.iload_n 1, 1) := by decide +kernel
theorem dX12_changedNull_18 : decode cX12_changedNull 18 = .ok (.imul, 1) := by decide +kernel
theorem dX12_changedNull_19 : decode cX12_changedNull 19 = .ok (.iload_n 2, 1) := by decide +kernel
theorem dX12_changedNull_20 : decode cX12_changedNull 20 = .ok (.iadd, 1) := by decide +kernel
theorem dX12_changedNull_21 : decode cX12_changedNull 21 = .ok (.baload, 1) := by decide +kernel
theorem dX12_changedNull_22 : decode cX12_changedNull 22 = .ok (.ifCond .eq 7, 3) := by decide +kernel
theorem dX12_changedNull_25 : decode cX12_changedNull 25 = .ok (.iconst 1, 1) := by decide +kernel
theorem dX12_changedNull_26 : decode cX12_changedNull 26 = .ok (.goto 4, 3) := by decide +kernel
theorem dX12_changedNull_29 : decode cX12_changedNull 29 = .ok (.iconst 0, 1) := by decide +kernel
theorem dX12_changedNull_30 : decode cX12_changedNull 30 = .ok (.ireturn, 1) := by decide +kernel
def m_changedNull_b30 (F : Nat) (cs : RS) (y0 : Int32) : Option Int32 := Option.bind (ckZ y0) fun _ => some y0
def m_changedNull_b29 (F : Nat) (cs : RS) : Option Int32 := m_changedNull_b30 F cs 0
def m_changedNull (F : Nat) (cs : RS) (x1 : Int32) (x2 : Int32) : Option Int32 := Option.bind (m_isChange F cs x1 x2) fun v_2 => if v_2 = 0 then (m_changedNull_b29 F cs ) else (Option.bind (rdI (cs.2.2.1 113) 10400 (((cs.1 101) * x1) + x2)) fun v_4 => if v_4 = 0 then (m_changedNull_b29 F cs ) else (m_changedNull_b30 F cs 1))
set_option maxHeartbeats 4000000 in
set_option maxRecDepth 100000 in
theorem s_changedNull (l : Launch) (dC : Nat → ClassId) (dI : Nat → Nat → Nat) (cB cI cJ cZ : ClassId) (h0 : Nat) (a : Nat → Nat) (K V : Nat → Nat) (fz : Value) (F : Nat) (cs : RS) (x1 : Int32) (x2 : Int32) (r9 : Int32) (hf : m_changedNull F cs x1 x2 = some r9) : okI l dC dI cB cI cJ cZ h0 a K V fz yX12_changedNull (wsOf yX12_changedNull cX12_changedNull 3 (some .boolean)) (1) [.ref h0, .int x1, .int x2] cs cs r9 := by
  intro sz
  refine Met.ofW (cc := cX12_changedNull) (maxL := 3) (ret := (some .boolean)) (by decide) rfl ?_
  intro p e s m args below meth c s₁ B hml hv
  obtain ⟨rfl, hsz, hP, hK, hD0, hZ⟩ := hv
  have hx := B.exec
  have hb := B.bytes
  have hr := B.returns
  have hts := atoms_spec (ws := (wsOf yX12_changedNull cX12_changedNull 3 (some .boolean))) B.pre
  have hown : s.vm.findClass RX12 = some m.cls := findClass_of_methodNamed B.named
  have hlocks := B.notSynchronized
  subst hsz
  have hD := hD0.self (sz := s.heap.size)
  generalize hAe : va_A (mW cB cI cJ cZ h0 a cs) s.heap.size = A at hD hZ ⊢
  have hA : ∀ q : Nat, s.heap.size ≤ q → A q := fun q h => by rw [← hAe]; exact Or.inr h
  have hS : va_S A s.heap s.heap [] := va_S.rf
  have hl := lv_entry ([.ref h0, .int x1, .int x2]) (n := 3) (Nat.le_of_ble_eq_true rfl)
  rw [lg_entry_eq]
  generalize (lg_sl ([.ref h0, .int x1, .int x2]) ++ List.replicate (3 - (lg_sl ([.ref h0, .int x1, .int x2])).length) Slot.unset).toArray = ls at hl ⊢
  have hl : lv_has ls 3 [(0, .ref h0), (1, .int x1), (2, .int x2)] := hl
  have B_30 : ∀ (y0 : Int32), m_changedNull_b30 F cs y0 = some r9 → ∀ (H : Heap) (locs : List Loc) (ls : Array Slot), va_P (dC, dI) vwCl (mW cB cI cJ cZ h0 a cs) H → va_D A (mW cB cI cJ cZ h0 a cs) → va_S A s.heap H locs → lv_has ls 3 [] → W p l e (headSpec (wsOf yX12_changedNull cX12_changedNull 3 (some .boolean)) ({ frames := 1, cells := 0, slots := 0, locals := 60 * (1) } : Room)).room s m ([.ref h0, .int x1, .int x2] : List Value).toArray below meth c H locs 0 0 (MQ below (va_Qi (fun (x : Int32) (_ : Unit) => x = r9) (fun _ t_ => va_P (dC, dI) vwCl (mW cB cI cJ cZ h0 a cs) t_.heap ∧ va_D A (mW cB cI cJ cZ h0 a cs)) A) ([.ref h0, .int x1, .int x2] : List Value).toArray s 0 0 A) (F0 m 30 ls [.int y0]) := by
    intro y0 h H locs ls hP hD hS hl
    unfold m_changedNull_b30 at h
    obtain ⟨w_1, hw_1, h⟩ := ob h
    have e2 := Option.some.inj h
    exact W.zret (v := y0) hx hb hr (nzN (ckZ_some hw_1)) (fun t_ ht hW => ⟨⟨y0, (), rfl, e2, by rw [ht]; exact hP, hD⟩, hS.F ht⟩) hS.2.2 dX12_changedNull_30
  have B_29 : m_changedNull_b29 F cs = some r9 → ∀ (H : Heap) (locs : List Loc) (ls : Array Slot), va_P (dC, dI) vwCl (mW cB cI cJ cZ h0 a cs) H → va_D A (mW cB cI cJ cZ h0 a cs) → va_S A s.heap H locs → lv_has ls 3 [] → W p l e (headSpec (wsOf yX12_changedNull cX12_changedNull 3 (some .boolean)) ({ frames := 1, cells := 0, slots := 0, locals := 60 * (1) } : Room)).room s m ([.ref h0, .int x1, .int x2] : List Value).toArray below meth c H locs 0 0 (MQ below (va_Qi (fun (x : Int32) (_ : Unit) => x = r9) (fun _ t_ => va_P (dC, dI) vwCl (mW cB cI cJ cZ h0 a cs) t_.heap ∧ va_D A (mW cB cI cJ cZ h0 a cs)) A) ([.ref h0, .int x1, .int x2] : List Value).toArray s 0 0 A) (F0 m 29 ls []) := by
    intro  h H locs ls hP hD hS hl
    unfold m_changedNull_b29 at h
    refine lv_iconst (v := 0) hx hb dX12_changedNull_29 (by decide) ?_
    exact B_30 0 h _ _ _ hP hD hS (lv_sub hl [] rfl)
  have h := hf
  unfold m_changedNull at h
  refine lv_aload_n hx hb dX12_changedNull_0 rfl (lv_at hl 0 rfl) ?_
  refine lv_iload_n hx hb dX12_changedNull_1 rfl (lv_at hl 1 rfl) ?_
  refine lv_iload_n hx hb dX12_changedNull_2 rfl (lv_at hl 2 rfl) ?_
  obtain ⟨v_2, hv_2, h⟩ := ob h
  refine calI (As := [.int x1, .int x2]) hx hb hml hts hown hK hP hD hS hA hZ (s_isChange l dC dI cB cI cJ cZ h0 a K V fz F cs x1 x2 v_2 hv_2) (cw_isChange hts (fr := 0) (Nat.le_of_ble_eq_true rfl) (Nat.le_of_ble_eq_true rfl)) rfl hl.1 (Nat.le_of_ble_eq_true rfl) ⟨Nat.zero_le _, Nat.zero_le _⟩ dX12_changedNull_3 (fun H locs hP hD hS => ?_)
  refine lv_if_eq (tgt := 29) hx hb dX12_changedNull_6 (by decide) (fun c_3 => ?_) (fun c_3 => ?_)
  · skip
    replace h := (if_pos c_3).symm.trans h
    exact B_29  h _ _ _ hP hD hS (lv_sub hl [] rfl)
  · skip
    replace h := (if_neg c_3).symm.trans h
    refine lv_aload_n hx hb dX12_changedNull_9 rfl (lv_at hl 0 rfl) ?_
    refine fg_113 hx hb hts hown hK hP dX12_changedNull_10 ?_
    refine lv_aload_n hx hb dX12_changedNull_13 rfl (lv_at hl 0 rfl) ?_
    refine fg_101 hx hb hts hown hK hP dX12_changedNull_14 ?_
    refine lv_iload_n hx hb dX12_changedNull_17 rfl (lv_at hl 1 rfl) ?_
    refine lv_imul hx hb dX12_changedNull_18 ?_
    refine lv_iload_n hx hb dX12_changedNull_19 rfl (lv_at hl 2 rfl) ?_
    refine lv_iadd hx hb dX12_changedNull_20 ?_
    obtain ⟨v_4, hv_4, h⟩ := ob h
    refine ag_113 hx hb hK hP hv_4 dX12_changedNull_21 ?_
    refine lv_if_eq (tgt := 29) hx hb dX12_changedNull_22 (by decide) (fun c_5 => ?_) (fun c_5 => ?_)
    · skip
      replace h := (if_pos c_5).symm.trans h
      exact B_29  h _ _ _ hP hD hS (lv_sub hl [] rfl)
    · skip
      replace h := (if_neg c_5).symm.trans h
      refine lv_iconst (v := 1) hx hb dX12_changedNull_25 (by decide) ?_
      refine lv_goto (tgt := 30) hx hb dX12_changedNull_26 (by decide) ?_
      exact B_30 1 h _ _ _ hP hD hS (lv_sub hl [] rfl)
theorem dX12_rows_0 : decode cX12_rows 0 = .ok (.aload_n 0, 1) := by decide +kernel
theorem dX12_rows_1 : decode cX12_rows 1 = .ok (.getfield 584, 3) := by decide +kernel
theorem dX12_rows_4 : decode cX12_rows 4 = .ok (.ifCond .eq 10, 3) := by decide +kernel
theorem dX12_rows_7 : decode cX12_rows 7 = .ok (.aload_n 0, 1) := by decide +kernel
theorem dX12_rows_8 : decode cX12_rows 8 = .ok (.getfield 724, 3) := by decide +kernel
theorem dX12_rows_11 : decode cX12_rows 11 = .ok (.goto 4, 3) := by decide +kernel
theorem dX12_rows_14 : decode cX12_rows 14 = .ok (.iconst 0, 1) := by decide +kernel
theorem dX12_rows_15 : decode cX12_rows 15 = .ok (.ireturn, 1) := by decide +kernel
def m_rows_b15 (F : Nat) (cs : RS) (y0 : Int32) : Option Int32 := some y0
def m_rows (F : Nat) (cs : RS) : Option Int32 := if (cs.1 81) = 0 then (m_rows_b15 F cs 0) else (m_rows_b15 F cs (cs.1 100))
set_option maxHeartbeats 4000000 in
set_option maxRecDepth 100000 in
theorem s_rows (l : Launch) (dC : Nat → ClassId) (dI : Nat → Nat → Nat) (cB cI cJ cZ : ClassId) (h0 : Nat) (a : Nat → Nat) (K V : Nat → Nat) (fz : Value) (F : Nat) (cs : RS) (r9 : Int32) (hf : m_rows F cs = some r9) : okI l dC dI cB cI cJ cZ h0 a K V fz yX12_rows (wsOf yX12_rows cX12_rows 1 (some .int)) (0) [.ref h0] cs cs r9 := by
  intro sz
  refine Met.ofW (cc := cX12_rows) (maxL := 1) (ret := (some .int)) (by decide) rfl ?_
  intro p e s m args below meth c s₁ B hml hv
  obtain ⟨rfl, hsz, hP, hK, hD0, hZ⟩ := hv
  have hx := B.exec
  have hb := B.bytes
  have hr := B.returns
  have hts := atoms_spec (ws := (wsOf yX12_rows cX12_rows 1 (some .int))) B.pre
  have hown : s.vm.findClass RX12 = some m.cls := findClass_of_methodNamed B.named
  have hlocks := B.notSynchronized
  subst hsz
  have hD := hD0.self (sz := s.heap.size)
  generalize hAe : va_A (mW cB cI cJ cZ h0 a cs) s.heap.size = A at hD hZ ⊢
  have hA : ∀ q : Nat, s.heap.size ≤ q → A q := fun q h => by rw [← hAe]; exact Or.inr h
  have hS : va_S A s.heap s.heap [] := va_S.rf
  have hl := lv_entry ([.ref h0]) (n := 1) (Nat.le_of_ble_eq_true rfl)
  rw [lg_entry_eq]
  generalize (lg_sl ([.ref h0]) ++ List.replicate (1 - (lg_sl ([.ref h0])).length) Slot.unset).toArray = ls at hl ⊢
  have hl : lv_has ls 1 [(0, .ref h0)] := hl
  have B_15 : ∀ (y0 : Int32), m_rows_b15 F cs y0 = some r9 → ∀ (H : Heap) (locs : List Loc) (ls : Array Slot), va_P (dC, dI) vwCl (mW cB cI cJ cZ h0 a cs) H → va_D A (mW cB cI cJ cZ h0 a cs) → va_S A s.heap H locs → lv_has ls 1 [] → W p l e (headSpec (wsOf yX12_rows cX12_rows 1 (some .int)) ({ frames := 0, cells := 0, slots := 0, locals := 60 * (0) } : Room)).room s m ([.ref h0] : List Value).toArray below meth c H locs 0 0 (MQ below (va_Qi (fun (x : Int32) (_ : Unit) => x = r9) (fun _ t_ => va_P (dC, dI) vwCl (mW cB cI cJ cZ h0 a cs) t_.heap ∧ va_D A (mW cB cI cJ cZ h0 a cs)) A) ([.ref h0] : List Value).toArray s 0 0 A) (F0 m 15 ls [.int y0]) := by
    intro y0 h H locs ls hP hD hS hl
    unfold m_rows_b15 at h
    have e2 := Option.some.inj h
    exact W.iret (v := y0) hx hb hr (fun t_ ht hW => ⟨⟨y0, (), rfl, e2, by rw [ht]; exact hP, hD⟩, hS.F ht⟩) hS.2.2 dX12_rows_15
  have h := hf
  unfold m_rows at h
  refine lv_aload_n hx hb dX12_rows_0 rfl (lv_at hl 0 rfl) ?_
  refine fg_81 hx hb hts hown hK hP dX12_rows_1 ?_
  refine lv_if_eq (tgt := 14) hx hb dX12_rows_4 (by decide) (fun c_1 => ?_) (fun c_1 => ?_)
  · skip
    replace h := (if_pos c_1).symm.trans h
    refine lv_iconst (v := 0) hx hb dX12_rows_14 (by decide) ?_
    exact B_15 0 h _ _ _ hP hD hS (lv_sub hl [] rfl)
  · skip
    replace h := (if_neg c_1).symm.trans h
    refine lv_aload_n hx hb dX12_rows_7 rfl (lv_at hl 0 rfl) ?_
    refine fg_100 hx hb hts hown hK hP dX12_rows_8 ?_
    refine lv_goto (tgt := 15) hx hb dX12_rows_11 (by decide) ?_
    exact B_15 (cs.1 100) h _ _ _ hP hD hS (lv_sub hl [] rfl)
theorem dX12_isAnswer_0 : decode cX12_isAnswer 0 = .ok (.aload_n 0, 1) := by decide +kernel
theorem dX12_isAnswer_1 : decode cX12_isAnswer 1 = .ok (.getfield 584, 3) := by decide +kernel
theorem dX12_isAnswer_4 : decode cX12_isAnswer 4 = .ok (.ifCond .eq 31, 3) := by decide +kernel
theorem dX12_isAnswer_7 : decode cX12_isAnswer 7 = .ok (.iload_n 1, 1) := by decide +kernel
theorem dX12_isAnswer_8 : decode cX12_isAnswer 8 = .ok (.ifCond .lt 27, 3) := by decide +kernel
theorem dX12_isAnswer_11 : decode cX12_isAnswer 11 = .ok (.iload_n 1, 1) := by decide +kernel
theorem dX12_isAnswer_12 : decode cX12_isAnswer 12 = .ok (.aload_n 0, 1) := by decide +kernel
theorem dX12_isAnswer_13 : decode cX12_isAnswer 13 = .ok (.getfield 724, 3) := by decide +kernel
theorem dX12_isAnswer_16 : decode cX12_isAnswer 16 = .ok (.if_icmp .ge 19, 3) := by decide +kernel
theorem dX12_isAnswer_19 : decode cX12_isAnswer 19 = .ok (.iload_n 2, 1) := by decide +kernel
theorem dX12_isAnswer_20 : decode cX12_isAnswer 20 = .ok (.ifCond .lt 15, 3) := by decide +kernel
theorem dX12_isAnswer_23 : decode cX12_isAnswer 23 = .ok (.iload_n 2, 1) := by decide +kernel
theorem dX12_isAnswer_24 : decode cX12_isAnswer 24 = .ok (.aload_n 0, 1) := by decide +kernel
theorem dX12_isAnswer_25 : decode cX12_isAnswer 25 = .ok (.getfield 719, 3) := by decide +kernel
theorem dX12_isAnswer_28 : decode cX12_isAnswer 28 = .ok (.if_icmp .ge 7, 3) := by decide +kernel
theorem dX12_isAnswer_31 : decode cX12_isAnswer 31 = .ok (.iconst 1, 1) := by decide +kernel
theorem dX12_isAnswer_32 : decode cX12_isAnswer 32 = .ok (.goto 4, 3) := by decide +kernel
theorem dX12_isAnswer_35 : decode cX12_isAnswer 35 = .ok (.iconst 0, 1) := by decide +kernel
theorem dX12_isAnswer_36 : decode cX12_isAnswer 36 = .ok (.ireturn, 1) := by decide +kernel
def m_isAnswer_b36 (F : Nat) (cs : RS) (y0 : Int32) : Option Int32 := Option.bind (ckZ y0) fun _ => some y0
def m_isAnswer_b35 (F : Nat) (cs : RS) : Option Int32 := m_isAnswer_b36 F cs 0
def m_isAnswer (F : Nat) (cs : RS) (x1 : Int32) (x2 : Int32) : Option Int32 := if (cs.1 81) = 0 then (m_isAnswer_b35 F cs ) else (if x1 < 0 then (m_isAnswer_b35 F cs ) else (if (cs.1 100) ≤ x1 then (m_isAnswer_b35 F cs ) else (if x2 < 0 then (m_isAnswer_b35 F cs ) else (if (cs.1 101) ≤ x2 then (m_isAnswer_b35 F cs ) else (m_isAnswer_b36 F cs 1)))))
set_option maxHeartbeats 4000000 in
set_option maxRecDepth 100000 in
theorem s_isAnswer (l : Launch) (dC : Nat → ClassId) (dI : Nat → Nat → Nat) (cB cI cJ cZ : ClassId) (h0 : Nat) (a : Nat → Nat) (K V : Nat → Nat) (fz : Value) (F : Nat) (cs : RS) (x1 : Int32) (x2 : Int32) (r9 : Int32) (hf : m_isAnswer F cs x1 x2 = some r9) : okI l dC dI cB cI cJ cZ h0 a K V fz yX12_isAnswer (wsOf yX12_isAnswer cX12_isAnswer 3 (some .boolean)) (0) [.ref h0, .int x1, .int x2] cs cs r9 := by
  intro sz
  refine Met.ofW (cc := cX12_isAnswer) (maxL := 3) (ret := (some .boolean)) (by decide) rfl ?_
  intro p e s m args below meth c s₁ B hml hv
  obtain ⟨rfl, hsz, hP, hK, hD0, hZ⟩ := hv
  have hx := B.exec
  have hb := B.bytes
  have hr := B.returns
  have hts := atoms_spec (ws := (wsOf yX12_isAnswer cX12_isAnswer 3 (some .boolean))) B.pre
  have hown : s.vm.findClass RX12 = some m.cls := findClass_of_methodNamed B.named
  have hlocks := B.notSynchronized
  subst hsz
  have hD := hD0.self (sz := s.heap.size)
  generalize hAe : va_A (mW cB cI cJ cZ h0 a cs) s.heap.size = A at hD hZ ⊢
  have hA : ∀ q : Nat, s.heap.size ≤ q → A q := fun q h => by rw [← hAe]; exact Or.inr h
  have hS : va_S A s.heap s.heap [] := va_S.rf
  have hl := lv_entry ([.ref h0, .int x1, .int x2]) (n := 3) (Nat.le_of_ble_eq_true rfl)
  rw [lg_entry_eq]
  generalize (lg_sl ([.ref h0, .int x1, .int x2]) ++ List.replicate (3 - (lg_sl ([.ref h0, .int x1, .int x2])).length) Slot.unset).toArray = ls at hl ⊢
  have hl : lv_has ls 3 [(0, .ref h0), (1, .int x1), (2, .int x2)] := hl
  have B_36 : ∀ (y0 : Int32), m_isAnswer_b36 F cs y0 = some r9 → ∀ (H : Heap) (locs : List Loc) (ls : Array Slot), va_P (dC, dI) vwCl (mW cB cI cJ cZ h0 a cs) H → va_D A (mW cB cI cJ cZ h0 a cs) → va_S A s.heap H locs → lv_has ls 3 [] → W p l e (headSpec (wsOf yX12_isAnswer cX12_isAnswer 3 (some .boolean)) ({ frames := 0, cells := 0, slots := 0, locals := 60 * (0) } : Room)).room s m ([.ref h0, .int x1, .int x2] : List Value).toArray below meth c H locs 0 0 (MQ below (va_Qi (fun (x : Int32) (_ : Unit) => x = r9) (fun _ t_ => va_P (dC, dI) vwCl (mW cB cI cJ cZ h0 a cs) t_.heap ∧ va_D A (mW cB cI cJ cZ h0 a cs)) A) ([.ref h0, .int x1, .int x2] : List Value).toArray s 0 0 A) (F0 m 36 ls [.int y0]) := by
    intro y0 h H locs ls hP hD hS hl
    unfold m_isAnswer_b36 at h
    obtain ⟨w_1, hw_1, h⟩ := ob h
    have e2 := Option.some.inj h
    exact W.zret (v := y0) hx hb hr (nzN (ckZ_some hw_1)) (fun t_ ht hW => ⟨⟨y0, (), rfl, e2, by rw [ht]; exact hP, hD⟩, hS.F ht⟩) hS.2.2 dX12_isAnswer_36
  have B_35 : m_isAnswer_b35 F cs = some r9 → ∀ (H : Heap) (locs : List Loc) (ls : Array Slot), va_P (dC, dI) vwCl (mW cB cI cJ cZ h0 a cs) H → va_D A (mW cB cI cJ cZ h0 a cs) → va_S A s.heap H locs → lv_has ls 3 [] → W p l e (headSpec (wsOf yX12_isAnswer cX12_isAnswer 3 (some .boolean)) ({ frames := 0, cells := 0, slots := 0, locals := 60 * (0) } : Room)).room s m ([.ref h0, .int x1, .int x2] : List Value).toArray below meth c H locs 0 0 (MQ below (va_Qi (fun (x : Int32) (_ : Unit) => x = r9) (fun _ t_ => va_P (dC, dI) vwCl (mW cB cI cJ cZ h0 a cs) t_.heap ∧ va_D A (mW cB cI cJ cZ h0 a cs)) A) ([.ref h0, .int x1, .int x2] : List Value).toArray s 0 0 A) (F0 m 35 ls []) := by
    intro  h H locs ls hP hD hS hl
    unfold m_isAnswer_b35 at h
    refine lv_iconst (v := 0) hx hb dX12_isAnswer_35 (by decide) ?_
    exact B_36 0 h _ _ _ hP hD hS (lv_sub hl [] rfl)
  have h := hf
  unfold m_isAnswer at h
  refine lv_aload_n hx hb dX12_isAnswer_0 rfl (lv_at hl 0 rfl) ?_
  refine fg_81 hx hb hts hown hK hP dX12_isAnswer_1 ?_
  refine lv_if_eq (tgt := 35) hx hb dX12_isAnswer_4 (by decide) (fun c_2 => ?_) (fun c_2 => ?_)
  · skip
    replace h := (if_pos c_2).symm.trans h
    exact B_35  h _ _ _ hP hD hS (lv_sub hl [] rfl)
  · skip
    replace h := (if_neg c_2).symm.trans h
    refine lv_iload_n hx hb dX12_isAnswer_7 rfl (lv_at hl 1 rfl) ?_
    refine lv_if_lt (tgt := 35) hx hb dX12_isAnswer_8 (by decide) (fun c_3 => ?_) (fun c_3 => ?_)
    · skip
      replace h := (if_pos c_3).symm.trans h
      exact B_35  h _ _ _ hP hD hS (lv_sub hl [] rfl)
    · skip
      replace h := (if_neg c_3).symm.trans h
      refine lv_iload_n hx hb dX12_isAnswer_11 rfl (lv_at hl 1 rfl) ?_
      refine lv_aload_n hx hb dX12_isAnswer_12 rfl (lv_at hl 0 rfl) ?_
      refine fg_100 hx hb hts hown hK hP dX12_isAnswer_13 ?_
      refine lv_icmp_ge (tgt := 35) hx hb dX12_isAnswer_16 (by decide) (fun c_4 => ?_) (fun c_4 => ?_)
      · skip
        replace h := (if_pos c_4).symm.trans h
        exact B_35  h _ _ _ hP hD hS (lv_sub hl [] rfl)
      · skip
        replace h := (if_neg c_4).symm.trans h
        refine lv_iload_n hx hb dX12_isAnswer_19 rfl (lv_at hl 2 rfl) ?_
        refine lv_if_lt (tgt := 35) hx hb dX12_isAnswer_20 (by decide) (fun c_5 => ?_) (fun c_5 => ?_)
        · skip
          replace h := (if_pos c_5).symm.trans h
          exact B_35  h _ _ _ hP hD hS (lv_sub hl [] rfl)
        · skip
          replace h := (if_neg c_5).symm.trans h
          refine lv_iload_n hx hb dX12_isAnswer_23 rfl (lv_at hl 2 rfl) ?_
          refine lv_aload_n hx hb dX12_isAnswer_24 rfl (lv_at hl 0 rfl) ?_
          refine fg_101 hx hb hts hown hK hP dX12_isAnswer_25 ?_
          refine lv_icmp_ge (tgt := 35) hx hb dX12_isAnswer_28 (by decide) (fun c_6 => ?_) (fun c_6 => ?_)
          · skip
            replace h := (if_pos c_6).symm.trans h
            exact B_35  h _ _ _ hP hD hS (lv_sub hl [] rfl)
          · skip
            replace h := (if_neg c_6).symm.trans h
            refine lv_iconst (v := 1) hx hb dX12_isAnswer_31 (by decide) ?_
            refine lv_goto (tgt := 36) hx hb dX12_isAnswer_32 (by decide) ?_
            exact B_36 1 h _ _ _ hP hD hS (lv_sub hl [] rfl)
theorem cw_isAnswer {R : Room} {s : State} {args : Array Value} {y0 : MethodName} {c0 : ByteArray} {n0 : Nat} {r0 : Option FieldType} (hts : ∀ w ∈ wsOf y0 c0 n0 r0, w.before args s = true) {fr : Nat} (h1 : fr + 1 ≤ R.frames) (h2 : 8 + (3 + 11) + 60 * fr ≤ R.locals) : CallW R s args RX12 RX12 740 yX12_isAnswer cX12_isAnswer 3 (some .boolean) (wsOf yX12_isAnswer cX12_isAnswer 3 (some .boolean)) ({ frames := fr, cells := 0, slots := 0, locals := 60 * fr } : Room) 0 0 2 := cwV 2 hts (gd_all (in_V kw_2491 kw_2493 kw_179 kw_191 kc_X12_isAnswer)) rfl rfl rfl (by decide +kernel) ⟨h1, h2⟩
theorem dX12_at_0 : decode cX12_at 0 = .ok (.aload_n 0, 1) := by decide +kernel
theorem dX12_at_1 : decode cX12_at 1 = .ok (.iload_n 1, 1) := by decide +kernel
theorem dX12_at_2 : decode cX12_at 2 = .ok (.iload_n 2, 1) := by decide +kernel
theorem dX12_at_3 : decode cX12_at 3 = .ok (.invokevirtual 740, 3) := by decide +kernel
theorem dX12_at_6 : decode cX12_at 6 = .ok (.ifCond .eq 19, 3) := by decide +kernel
theorem dX12_at_9 : decode cX12_at 9 = .ok (.aload_n 0, 1) := by decide +kernel
theorem dX12_at_10 : decode cX12_at 10 = .ok (.getfield 215, 3) := by decide +kernel
theorem dX12_at_13 : decode cX12_at 13 = .ok (.aload_n 0, 1) := by decide +kernel
theorem dX12_at_14 : decode cX12_at 14 = .ok (.getfield 719, 3) := by decide +kernel
theorem dX12_at_17 : decode cX12_at 17 = .ok (.iload_n 1, 1) := by decide +kernel
theorem dX12_at_18 : decode cX12_at 18 = .ok (.imul, 1) := by decide +kernel
theorem dX12_at_19 : decode cX12_at 19 = .ok (.iload_n 2, 1) := by decide +kernel
theorem dX12_at_20 : decode cX12_at 20 = .ok (.iadd, 1) := by decide +kernel
theorem dX12_at_21 : decode cX12_at 21 = .ok (.laload, 1) := by decide +kernel
theorem dX12_at_22 : decode cX12_at 22 = .ok (.goto 4, 3) := by decide +kernel
theorem dX12_at_25 : decode cX12_at 25 = .ok (.lconst 0, 1) := by decide +kernel
theorem dX12_at_26 : decode cX12_at 26 = .ok (.lreturn, 1) := by decide +kernel
def m_at_b26 (F : Nat) (cs : RS) (y0 : Int64) : Option Int64 := some y0
def m_at (F : Nat) (cs : RS) (x1 : Int32) (x2 : Int32) : Option Int64 := Option.bind (m_isAnswer F cs x1 x2) fun v_1 => if v_1 = 0 then (m_at_b26 F cs 0) else (Option.bind (rdL (cs.2.2.2 102) 4800 (((cs.1 101) * x1) + x2)) fun v_3 => m_at_b26 F cs v_3)
set_option maxHeartbeats 4000000 in
set_option maxRecDepth 100000 in
theorem s_at (l : Launch) (dC : Nat → ClassId) (dI : Nat → Nat → Nat) (cB cI cJ cZ : ClassId) (h0 : Nat) (a : Nat → Nat) (K V : Nat → Nat) (fz : Value) (F : Nat) (cs : RS) (x1 : Int32) (x2 : Int32) (r9 : Int64) (hf : m_at F cs x1 x2 = some r9) : okL l dC dI cB cI cJ cZ h0 a K V fz yX12_at (wsOf yX12_at cX12_at 3 (some .long)) (1) [.ref h0, .int x1, .int x2] cs cs r9 := by
  intro sz
  refine Met.ofW (cc := cX12_at) (maxL := 3) (ret := (some .long)) (by decide) rfl ?_
  intro p e s m args below meth c s₁ B hml hv
  obtain ⟨rfl, hsz, hP, hK, hD0, hZ⟩ := hv
  have hx := B.exec
  have hb := B.bytes
  have hr := B.returns
  have hts := atoms_spec (ws := (wsOf yX12_at cX12_at 3 (some .long))) B.pre
  have hown : s.vm.findClass RX12 = some m.cls := findClass_of_methodNamed B.named
  have hlocks := B.notSynchronized
  subst hsz
  have hD := hD0.self (sz := s.heap.size)
  generalize hAe : va_A (mW cB cI cJ cZ h0 a cs) s.heap.size = A at hD hZ ⊢
  have hA : ∀ q : Nat, s.heap.size ≤ q → A q := fun q h => by rw [← hAe]; exact Or.inr h
  have hS : va_S A s.heap s.heap [] := va_S.rf
  have hl := lv_entry ([.ref h0, .int x1, .int x2]) (n := 3) (Nat.le_of_ble_eq_true rfl)
  rw [lg_entry_eq]
  generalize (lg_sl ([.ref h0, .int x1, .int x2]) ++ List.replicate (3 - (lg_sl ([.ref h0, .int x1, .int x2])).length) Slot.unset).toArray = ls at hl ⊢
  have hl : lv_has ls 3 [(0, .ref h0), (1, .int x1), (2, .int x2)] := hl
  have B_26 : ∀ (y0 : Int64), m_at_b26 F cs y0 = some r9 → ∀ (H : Heap) (locs : List Loc) (ls : Array Slot), va_P (dC, dI) vwCl (mW cB cI cJ cZ h0 a cs) H → va_D A (mW cB cI cJ cZ h0 a cs) → va_S A s.heap H locs → lv_has ls 3 [] → W p l e (headSpec (wsOf yX12_at cX12_at 3 (some .long)) ({ frames := 1, cells := 0, slots := 0, locals := 60 * (1) } : Room)).room s m ([.ref h0, .int x1, .int x2] : List Value).toArray below meth c H locs 0 0 (MQ below (va_Ql (fun (x : Int64) (_ : Unit) => x = r9) (fun _ t_ => va_P (dC, dI) vwCl (mW cB cI cJ cZ h0 a cs) t_.heap ∧ va_D A (mW cB cI cJ cZ h0 a cs)) A) ([.ref h0, .int x1, .int x2] : List Value).toArray s 0 0 A) (F0 m 26 ls [.long y0]) := by
    intro y0 h H locs ls hP hD hS hl
    unfold m_at_b26 at h
    have e2 := Option.some.inj h
    exact W.lret (v := y0) hx hb hr (fun t_ ht hW => ⟨⟨y0, (), rfl, e2, by rw [ht]; exact hP, hD⟩, hS.F ht⟩) hS.2.2 dX12_at_26
  have h := hf
  unfold m_at at h
  refine lv_aload_n hx hb dX12_at_0 rfl (lv_at hl 0 rfl) ?_
  refine lv_iload_n hx hb dX12_at_1 rfl (lv_at hl 1 rfl) ?_
  refine lv_iload_n hx hb dX12_at_2 rfl (lv_at hl 2 rfl) ?_
  obtain ⟨v_1, hv_1, h⟩ := ob h
  refine calI (As := [.int x1, .int x2]) hx hb hml hts hown hK hP hD hS hA hZ (s_isAnswer l dC dI cB cI cJ cZ h0 a K V fz F cs x1 x2 v_1 hv_1) (cw_isAnswer hts (fr := 0) (Nat.le_of_ble_eq_true rfl) (Nat.le_of_ble_eq_true rfl)) rfl hl.1 (Nat.le_of_ble_eq_true rfl) ⟨Nat.zero_le _, Nat.zero_le _⟩ dX12_at_3 (fun H locs hP hD hS => ?_)
  refine lv_if_eq (tgt := 25) hx hb dX12_at_6 (by decide) (fun c_2 => ?_) (fun c_2 => ?_)
  · skip
    replace h := (if_pos c_2).symm.trans h
    refine lv_lconst (v := 0) hx hb dX12_at_25 (by decide) ?_
    exact B_26 0 h _ _ _ hP hD hS (lv_sub hl [] rfl)
  · skip
    replace h := (if_neg c_2).symm.trans h
    refine lv_aload_n hx hb dX12_at_9 rfl (lv_at hl 0 rfl) ?_
    refine fg_102 hx hb hts hown hK hP dX12_at_10 ?_
    refine lv_aload_n hx hb dX12_at_13 rfl (lv_at hl 0 rfl) ?_
    refine fg_101 hx hb hts hown hK hP dX12_at_14 ?_
    refine lv_iload_n hx hb dX12_at_17 rfl (lv_at hl 1 rfl) ?_
    refine lv_imul hx hb dX12_at_18 ?_
    refine lv_iload_n hx hb dX12_at_19 rfl (lv_at hl 2 rfl) ?_
    refine lv_iadd hx hb dX12_at_20 ?_
    obtain ⟨v_3, hv_3, h⟩ := ob h
    refine ag_102 hx hb hK hP hv_3 dX12_at_21 ?_
    refine lv_goto (tgt := 26) hx hb dX12_at_22 (by decide) ?_
    exact B_26 v_3 h _ _ _ hP hD hS (lv_sub hl [] rfl)
theorem dX12_isNull_0 : decode cX12_isNull 0 = .ok (.aload_n 0, 1) := by decide +kernel
theorem dX12_isNull_1 : decode cX12_isNull 1 = .ok (.iload_n 1, 1) := by decide +kernel
theorem dX12_isNull_2 : decode cX12_isNull 2 = .ok (.iload_n 2, 1) := by decide +kernel
theorem dX12_isNull_3 : decode cX12_isNull 3 = .ok (.invokevirtual 740, 3) := by decide +kernel
theorem dX12_isNull_6 : decode cX12_isNull 6 = .ok (.ifCond .eq 23, 3) := by decide +kernel
theorem dX12_isNull_9 : decode cX12_isNull 9 = .ok (.aload_n 0, 1) := by decide +kernel
theorem dX12_isNull_10 : decode cX12_isNull 10 = .ok (.getfield 218, 3) := by decide +kernel
theorem dX12_isNull_13 : decode cX12_isNull 13 = .ok (.aload_n 0, 1) := by decide +kernel
theorem dX12_isNull_14 : decode cX12_isNull 14 = .ok (.getfield 719, 3) := by decide +kernel
theorem dX12_isNull_17 : decode cX12_isNull 17 = .ok (.iload_n 1, 1) := by decide +kernel
theorem dX12_isNull_18 : decode cX12_isNull 18 = .ok (.imul, 1) := by decide +kernel
theorem dX12_isNull_19 : decode cX12_isNull 19 = .ok (.iload_n 2, 1) := by decide +kernel
theorem dX12_isNull_20 : decode cX12_isNull 20 = .ok (.iadd, 1) := by decide +kernel
theorem dX12_isNull_21 : decode cX12_isNull 21 = .ok (.baload, 1) := by decide +kernel
theorem dX12_isNull_22 : decode cX12_isNull 22 = .ok (.ifCond .eq 7, 3) := by decide +kernel
theorem dX12_isNull_25 : decode cX12_isNull 25 = .ok (.iconst 1, 1) := by decide +kernel
theorem dX12_isNull_26 : decode cX12_isNull 26 = .ok (.goto 4, 3) := by decide +kernel
theorem dX12_isNull_29 : decode cX12_isNull 29 = .ok (.iconst 0, 1) := by decide +kernel
theorem dX12_isNull_30 : decode cX12_isNull 30 = .ok (.ireturn, 1) := by decide +kernel
def m_isNull_b30 (F : Nat) (cs : RS) (y0 : Int32) : Option Int32 := Option.bind (ckZ y0) fun _ => some y0
def m_isNull_b29 (F : Nat) (cs : RS) : Option Int32 := m_isNull_b30 F cs 0
def m_isNull (F : Nat) (cs : RS) (x1 : Int32) (x2 : Int32) : Option Int32 := Option.bind (m_isAnswer F cs x1 x2) fun v_2 => if v_2 = 0 then (m_isNull_b29 F cs ) else (Option.bind (rdI (cs.2.2.1 103) 4800 (((cs.1 101) * x1) + x2)) fun v_4 => if v_4 = 0 then (m_isNull_b29 F cs ) else (m_isNull_b30 F cs 1))
set_option maxHeartbeats 4000000 in
set_option maxRecDepth 100000 in
theorem s_isNull (l : Launch) (dC : Nat → ClassId) (dI : Nat → Nat → Nat) (cB cI cJ cZ : ClassId) (h0 : Nat) (a : Nat → Nat) (K V : Nat → Nat) (fz : Value) (F : Nat) (cs : RS) (x1 : Int32) (x2 : Int32) (r9 : Int32) (hf : m_isNull F cs x1 x2 = some r9) : okI l dC dI cB cI cJ cZ h0 a K V fz yX12_isNull (wsOf yX12_isNull cX12_isNull 3 (some .boolean)) (1) [.ref h0, .int x1, .int x2] cs cs r9 := by
  intro sz
  refine Met.ofW (cc := cX12_isNull) (maxL := 3) (ret := (some .boolean)) (by decide) rfl ?_
  intro p e s m args below meth c s₁ B hml hv
  obtain ⟨rfl, hsz, hP, hK, hD0, hZ⟩ := hv
  have hx := B.exec
  have hb := B.bytes
  have hr := B.returns
  have hts := atoms_spec (ws := (wsOf yX12_isNull cX12_isNull 3 (some .boolean))) B.pre
  have hown : s.vm.findClass RX12 = some m.cls := findClass_of_methodNamed B.named
  have hlocks := B.notSynchronized
  subst hsz
  have hD := hD0.self (sz := s.heap.size)
  generalize hAe : va_A (mW cB cI cJ cZ h0 a cs) s.heap.size = A at hD hZ ⊢
  have hA : ∀ q : Nat, s.heap.size ≤ q → A q := fun q h => by rw [← hAe]; exact Or.inr h
  have hS : va_S A s.heap s.heap [] := va_S.rf
  have hl := lv_entry ([.ref h0, .int x1, .int x2]) (n := 3) (Nat.le_of_ble_eq_true rfl)
  rw [lg_entry_eq]
  generalize (lg_sl ([.ref h0, .int x1, .int x2]) ++ List.replicate (3 - (lg_sl ([.ref h0, .int x1, .int x2])).length) Slot.unset).toArray = ls at hl ⊢
  have hl : lv_has ls 3 [(0, .ref h0), (1, .int x1), (2, .int x2)] := hl
  have B_30 : ∀ (y0 : Int32), m_isNull_b30 F cs y0 = some r9 → ∀ (H : Heap) (locs : List Loc) (ls : Array Slot), va_P (dC, dI) vwCl (mW cB cI cJ cZ h0 a cs) H → va_D A (mW cB cI cJ cZ h0 a cs) → va_S A s.heap H locs → lv_has ls 3 [] → W p l e (headSpec (wsOf yX12_isNull cX12_isNull 3 (some .boolean)) ({ frames := 1, cells := 0, slots := 0, locals := 60 * (1) } : Room)).room s m ([.ref h0, .int x1, .int x2] : List Value).toArray below meth c H locs 0 0 (MQ below (va_Qi (fun (x : Int32) (_ : Unit) => x = r9) (fun _ t_ => va_P (dC, dI) vwCl (mW cB cI cJ cZ h0 a cs) t_.heap ∧ va_D A (mW cB cI cJ cZ h0 a cs)) A) ([.ref h0, .int x1, .int x2] : List Value).toArray s 0 0 A) (F0 m 30 ls [.int y0]) := by
    intro y0 h H locs ls hP hD hS hl
    unfold m_isNull_b30 at h
    obtain ⟨w_1, hw_1, h⟩ := ob h
    have e2 := Option.some.inj h
    exact W.zret (v := y0) hx hb hr (nzN (ckZ_some hw_1)) (fun t_ ht hW => ⟨⟨y0, (), rfl, e2, by rw [ht]; exact hP, hD⟩, hS.F ht⟩) hS.2.2 dX12_isNull_30
  have B_29 : m_isNull_b29 F cs = some r9 → ∀ (H : Heap) (locs : List Loc) (ls : Array Slot), va_P (dC, dI) vwCl (mW cB cI cJ cZ h0 a cs) H → va_D A (mW cB cI cJ cZ h0 a cs) → va_S A s.heap H locs → lv_has ls 3 [] → W p l e (headSpec (wsOf yX12_isNull cX12_isNull 3 (some .boolean)) ({ frames := 1, cells := 0, slots := 0, locals := 60 * (1) } : Room)).room s m ([.ref h0, .int x1, .int x2] : List Value).toArray below meth c H locs 0 0 (MQ below (va_Qi (fun (x : Int32) (_ : Unit) => x = r9) (fun _ t_ => va_P (dC, dI) vwCl (mW cB cI cJ cZ h0 a cs) t_.heap ∧ va_D A (mW cB cI cJ cZ h0 a cs)) A) ([.ref h0, .int x1, .int x2] : List Value).toArray s 0 0 A) (F0 m 29 ls []) := by
    intro  h H locs ls hP hD hS hl
    unfold m_isNull_b29 at h
    refine lv_iconst (v := 0) hx hb dX12_isNull_29 (by decide) ?_
    exact B_30 0 h _ _ _ hP hD hS (lv_sub hl [] rfl)
  have h := hf
  unfold m_isNull at h
  refine lv_aload_n hx hb dX12_isNull_0 rfl (lv_at hl 0 rfl) ?_
  refine lv_iload_n hx hb dX12_isNull_1 rfl (lv_at hl 1 rfl) ?_
  refine lv_iload_n hx hb dX12_isNull_2 rfl (lv_at hl 2 rfl) ?_
  obtain ⟨v_2, hv_2, h⟩ := ob h
  refine calI (As := [.int x1, .int x2]) hx hb hml hts hown hK hP hD hS hA hZ (s_isAnswer l dC dI cB cI cJ cZ h0 a K V fz F cs x1 x2 v_2 hv_2) (cw_isAnswer hts (fr := 0) (Nat.le_of_ble_eq_true rfl) (Nat.le_of_ble_eq_true rfl)) rfl hl.1 (Nat.le_of_ble_eq_true rfl) ⟨Nat.zero_le _, Nat.zero_le _⟩ dX12_isNull_3 (fun H locs hP hD hS => ?_)
  refine lv_if_eq (tgt := 29) hx hb dX12_isNull_6 (by decide) (fun c_3 => ?_) (fun c_3 => ?_)
  · skip
    replace h := (if_pos c_3).symm.trans h
    exact B_29  h _ _ _ hP hD hS (lv_sub hl [] rfl)
  · skip
    replace h := (if_neg c_3).symm.trans h
    refine lv_aload_n hx hb dX12_isNull_9 rfl (lv_at hl 0 rfl) ?_
    refine fg_103 hx hb hts hown hK hP dX12_isNull_10 ?_
    refine lv_aload_n hx hb dX12_isNull_13 rfl (lv_at hl 0 rfl) ?_
    refine fg_101 hx hb hts hown hK hP dX12_isNull_14 ?_
    refine lv_iload_n hx hb dX12_isNull_17 rfl (lv_at hl 1 rfl) ?_
    refine lv_imul hx hb dX12_isNull_18 ?_
    refine lv_iload_n hx hb dX12_isNull_19 rfl (lv_at hl 2 rfl) ?_
    refine lv_iadd hx hb dX12_isNull_20 ?_
    obtain ⟨v_4, hv_4, h⟩ := ob h
    refine ag_103 hx hb hK hP hv_4 dX12_isNull_21 ?_
    refine lv_if_eq (tgt := 29) hx hb dX12_isNull_22 (by decide) (fun c_5 => ?_) (fun c_5 => ?_)
    · skip
      replace h := (if_pos c_5).symm.trans h
      exact B_29  h _ _ _ hP hD hS (lv_sub hl [] rfl)
    · skip
      replace h := (if_neg c_5).symm.trans h
      refine lv_iconst (v := 1) hx hb dX12_isNull_25 (by decide) ?_
      refine lv_goto (tgt := 30) hx hb dX12_isNull_26 (by decide) ?_
      exact B_30 1 h _ _ _ hP hD hS (lv_sub hl [] rfl)
theorem dX12_type_0 : decode cX12_type 0 = .ok (.aload_n 0, 1) := by decide +kernel
theorem dX12_type_1 : decode cX12_type 1 = .ok (.getfield 584, 3) := by decide +kernel
theorem dX12_type_4 : decode cX12_type 4 = .ok (.ifCond .eq 34, 3) := by decide +kernel
theorem dX12_type_7 : decode cX12_type 7 = .ok (.iload_n 1, 1) := by decide +kernel
theorem dX12_type_8 : decode cX12_type 8 = .ok (.ifCond .lt 30, 3) := by decide +kernel
theorem dX12_type_11 : decode cX12_type 11 = .ok (.iload_n 1, 1) := by decide +kernel
theorem dX12_type_12 : decode cX12_type 12 = .ok (.aload_n 0, 1) := by decide +kernel
theorem dX12_type_13 : decode cX12_type 13 = .ok (.getfield 719, 3) := by decide +kernel
theorem dX12_type_16 : decode cX12_type 16 = .ok (.if_icmp .ge 22, 3) := by decide +kernel
theorem dX12_type_19 : decode cX12_type 19 = .ok (.aload_n 0, 1) := by decide +kernel
theorem dX12_type_20 : decode cX12_type 20 = .ok (.getfield 118, 3) := by decide +kernel
theorem dX12_type_23 : decode cX12_type 23 = .ok (.bipush 8, 2) := by decide +kernel
theorem dX12_type_25 : decode cX12_type 25 = .ok (.aload_n 0, 1) := by decide +kernel
theorem dX12_type_26 : decode cX12_type 26 = .ok (.getfield 160, 3) := by decide +kernel
theorem dX12_type_29 : decode cX12_type 29 = .ok (.iconst 0, 1) := by decide +kernel
theorem dX12_type_30 : decode cX12_type 30 = .ok (.iaload, 1) := by decide +kernel
theorem dX12_type_31 : decode cX12_type 31 = .ok (.imul, 1) := by decide +kernel
theorem dX12_type_32 : decode cX12_type 32 = .ok (.iload_n 1, 1) := by decide +kernel
theorem dX12_type_33 : decode cX12_type 33 = .ok (.iadd, 1) := by decide +kernel
theorem dX12_type_34 : decode cX12_type 34 = .ok (.iaload, 1) := by decide +kernel
theorem dX12_type_35 : decode cX12_type 35 = .ok (.goto 4, 3) := by decide +kernel
theorem dX12_type_38 : decode cX12_type 38 = .ok (.iconst 0, 1) := by decide +kernel
theorem dX12_type_39 : decode cX12_type 39 = .ok (.ireturn, 1) := by decide +kernel
def m_type_b39 (F : Nat) (cs : RS) (y0 : Int32) : Option Int32 := some y0
def m_type_b38 (F : Nat) (cs : RS) : Option Int32 := m_type_b39 F cs 0
def m_type (F : Nat) (cs : RS) (x1 : Int32) : Option Int32 := if (cs.1 81) = 0 then (m_type_b38 F cs ) else (if x1 < 0 then (m_type_b38 F cs ) else (if (cs.1 101) ≤ x1 then (m_type_b38 F cs ) else (Option.bind (rdI (cs.2.2.1 61) 300 0) fun v_4 => Option.bind (rdI (cs.2.2.1 46) 480 ((8 * v_4) + x1)) fun v_5 => m_type_b39 F cs v_5)))
set_option maxHeartbeats 4000000 in
set_option maxRecDepth 100000 in
theorem s_type (l : Launch) (dC : Nat → ClassId) (dI : Nat → Nat → Nat) (cB cI cJ cZ : ClassId) (h0 : Nat) (a : Nat → Nat) (K V : Nat → Nat) (fz : Value) (F : Nat) (cs : RS) (x1 : Int32) (r9 : Int32) (hf : m_type F cs x1 = some r9) : okI l dC dI cB cI cJ cZ h0 a K V fz yX12_type (wsOf yX12_type cX12_type 2 (some .int)) (0) [.ref h0, .int x1] cs cs r9 := by
  intro sz
  refine Met.ofW (cc := cX12_type) (maxL := 2) (ret := (some .int)) (by decide) rfl ?_
  intro p e s m args below meth c s₁ B hml hv
  obtain ⟨rfl, hsz, hP, hK, hD0, hZ⟩ := hv
  have hx := B.exec
  have hb := B.bytes
  have hr := B.returns
  have hts := atoms_spec (ws := (wsOf yX12_type cX12_type 2 (some .int))) B.pre
  have hown : s.vm.findClass RX12 = some m.cls := findClass_of_methodNamed B.named
  have hlocks := B.notSynchronized
  subst hsz
  have hD := hD0.self (sz := s.heap.size)
  generalize hAe : va_A (mW cB cI cJ cZ h0 a cs) s.heap.size = A at hD hZ ⊢
  have hA : ∀ q : Nat, s.heap.size ≤ q → A q := fun q h => by rw [← hAe]; exact Or.inr h
  have hS : va_S A s.heap s.heap [] := va_S.rf
  have hl := lv_entry ([.ref h0, .int x1]) (n := 2) (Nat.le_of_ble_eq_true rfl)
  rw [lg_entry_eq]
  generalize (lg_sl ([.ref h0, .int x1]) ++ List.replicate (2 - (lg_sl ([.ref h0, .int x1])).length) Slot.unset).toArray = ls at hl ⊢
  have hl : lv_has ls 2 [(0, .ref h0), (1, .int x1)] := hl
  have B_39 : ∀ (y0 : Int32), m_type_b39 F cs y0 = some r9 → ∀ (H : Heap) (locs : List Loc) (ls : Array Slot), va_P (dC, dI) vwCl (mW cB cI cJ cZ h0 a cs) H → va_D A (mW cB cI cJ cZ h0 a cs) → va_S A s.heap H locs → lv_has ls 2 [] → W p l e (headSpec (wsOf yX12_type cX12_type 2 (some .int)) ({ frames := 0, cells := 0, slots := 0, locals := 60 * (0) } : Room)).room s m ([.ref h0, .int x1] : List Value).toArray below meth c H locs 0 0 (MQ below (va_Qi (fun (x : Int32) (_ : Unit) => x = r9) (fun _ t_ => va_P (dC, dI) vwCl (mW cB cI cJ cZ h0 a cs) t_.heap ∧ va_D A (mW cB cI cJ cZ h0 a cs)) A) ([.ref h0, .int x1] : List Value).toArray s 0 0 A) (F0 m 39 ls [.int y0]) := by
    intro y0 h H locs ls hP hD hS hl
    unfold m_type_b39 at h
    have e2 := Option.some.inj h
    exact W.iret (v := y0) hx hb hr (fun t_ ht hW => ⟨⟨y0, (), rfl, e2, by rw [ht]; exact hP, hD⟩, hS.F ht⟩) hS.2.2 dX12_type_39
  have B_38 : m_type_b38 F cs = some r9 → ∀ (H : Heap) (locs : List Loc) (ls : Array Slot), va_P (dC, dI) vwCl (mW cB cI cJ cZ h0 a cs) H → va_D A (mW cB cI cJ cZ h0 a cs) → va_S A s.heap H locs → lv_has ls 2 [] → W p l e (headSpec (wsOf yX12_type cX12_type 2 (some .int)) ({ frames := 0, cells := 0, slots := 0, locals := 60 * (0) } : Room)).room s m ([.ref h0, .int x1] : List Value).toArray below meth c H locs 0 0 (MQ below (va_Qi (fun (x : Int32) (_ : Unit) => x = r9) (fun _ t_ => va_P (dC, dI) vwCl (mW cB cI cJ cZ h0 a cs) t_.heap ∧ va_D A (mW cB cI cJ cZ h0 a cs)) A) ([.ref h0, .int x1] : List Value).toArray s 0 0 A) (F0 m 38 ls []) := by
    intro  h H locs ls hP hD hS hl
    unfold m_type_b38 at h
    refine lv_iconst (v := 0) hx hb dX12_type_38 (by decide) ?_
    exact B_39 0 h _ _ _ hP hD hS (lv_sub hl [] rfl)
  have h := hf
  unfold m_type at h
  refine lv_aload_n hx hb dX12_type_0 rfl (lv_at hl 0 rfl) ?_
  refine fg_81 hx hb hts hown hK hP dX12_type_1 ?_
  refine lv_if_eq (tgt := 38) hx hb dX12_type_4 (by decide) (fun c_1 => ?_) (fun c_1 => ?_)
  · skip
    replace h := (if_pos c_1).symm.trans h
    exact B_38  h _ _ _ hP hD hS (lv_sub hl [] rfl)
  · skip
    replace h := (if_neg c_1).symm.trans h
    refine lv_iload_n hx hb dX12_type_7 rfl (lv_at hl 1 rfl) ?_
    refine lv_if_lt (tgt := 38) hx hb dX12_type_8 (by decide) (fun c_2 => ?_) (fun c_2 => ?_)
    · skip
      replace h := (if_pos c_2).symm.trans h
      exact B_38  h _ _ _ hP hD hS (lv_sub hl [] rfl)
    · skip
      replace h := (if_neg c_2).symm.trans h
      refine lv_iload_n hx hb dX12_type_11 rfl (lv_at hl 1 rfl) ?_
      refine lv_aload_n hx hb dX12_type_12 rfl (lv_at hl 0 rfl) ?_
      refine fg_101 hx hb hts hown hK hP dX12_type_13 ?_
      refine lv_icmp_ge (tgt := 38) hx hb dX12_type_16 (by decide) (fun c_3 => ?_) (fun c_3 => ?_)
      · skip
        replace h := (if_pos c_3).symm.trans h
        exact B_38  h _ _ _ hP hD hS (lv_sub hl [] rfl)
      · skip
        replace h := (if_neg c_3).symm.trans h
        refine lv_aload_n hx hb dX12_type_19 rfl (lv_at hl 0 rfl) ?_
        refine fg_46 hx hb hts hown hK hP dX12_type_20 ?_
        refine lv_bipush (v := 8) hx hb dX12_type_23 (by decide) ?_
        refine lv_aload_n hx hb dX12_type_25 rfl (lv_at hl 0 rfl) ?_
        refine fg_61 hx hb hts hown hK hP dX12_type_26 ?_
        refine lv_iconst (v := 0) hx hb dX12_type_29 (by decide) ?_
        obtain ⟨v_4, hv_4, h⟩ := ob h
        refine ag_61 hx hb hK hP hv_4 dX12_type_30 ?_
        refine lv_imul hx hb dX12_type_31 ?_
        refine lv_iload_n hx hb dX12_type_32 rfl (lv_at hl 1 rfl) ?_
        refine lv_iadd hx hb dX12_type_33 ?_
        obtain ⟨v_5, hv_5, h⟩ := ob h
        refine ag_46 hx hb hK hP hv_5 dX12_type_34 ?_
        refine lv_goto (tgt := 39) hx hb dX12_type_35 (by decide) ?_
        exact B_39 v_5 h _ _ _ hP hD hS (lv_sub hl [] rfl)
theorem dX12_three_0 : decode cX12_three 0 = .ok (.iload_n 2, 1) := by decide +kernel
theorem dX12_three_1 : decode cX12_three 1 = .ok (.ifCond .eq 8, 3) := by decide +kernel
theorem dX12_three_4 : decode cX12_three 4 = .ok (.iload_n 2, 1) := by decide +kernel
theorem dX12_three_5 : decode cX12_three 5 = .ok (.iconst 1, 1) := by decide +kernel
theorem dX12_three_6 : decode cX12_three 6 = .ok (.if_icmp .ne 7, 3) := by decide +kernel
theorem dX12_three_9 : decode cX12_three 9 = .ok (.iload_n 2, 1) := by decide +kernel
theorem dX12_three_10 : decode cX12_three 10 = .ok (.goto 4, 3) := by decide +kernel
theorem dX12_three_13 : decode cX12_three 13 = .ok (.iconst 2, 1) := by decide +kernel
theorem dX12_three_14 : decode cX12_three 14 = .ok (.istore 4, 2) := by decide +kernel
theorem dX12_three_16 : decode cX12_three 16 = .ok (.iload_n 3, 1) := by decide +kernel
theorem dX12_three_17 : decode cX12_three 17 = .ok (.ifCond .eq 8, 3) := by decide +kernel
theorem dX12_three_20 : decode cX12_three 20 = .ok (.iload_n 3, 1) := by decide +kernel
theorem dX12_three_21 : decode cX12_three 21 = .ok (.iconst 1, 1) := by decide +kernel
theorem dX12_three_22 : decode cX12_three 22 = .ok (.if_icmp .ne 7, 3) := by decide +kernel
theorem dX12_three_25 : decode cX12_three 25 = .ok (.iload_n 3, 1) := by decide +kernel
theorem dX12_three_26 : decode cX12_three 26 = .ok (.goto 4, 3) := by decide +kernel
theorem dX12_three_29 : decode cX12_three 29 = .ok (.iconst 2, 1) := by decide +kernel
theorem dX12_three_30 : decode cX12_three 30 = .ok (.istore 5, 2) := by decide +kernel
theorem dX12_three_32 : decode cX12_three 32 = .ok (.iload_n 1, 1) := by decide +kernel
theorem dX12_three_33 : decode cX12_three 33 = .ok (.ifCond .lt 8, 3) := by decide +kernel
theorem dX12_three_36 : decode cX12_three 36 = .ok (.iload_n 1, 1) := by decide +kernel
theorem dX12_three_37 : decode cX12_three 37 = .ok (.iconst 5, 1) := by decide +kernel
theorem dX12_three_38 : decode cX12_three 38 = .ok (.if_icmp .le 6, 3) := by decide +kernel
theorem dX12_three_41 : decode cX12_three 41 = .ok (.bipush (-2), 2) := by decide +kernel
theorem dX12_three_43 : decode cX12_three 43 = .ok (.ireturn, 1) := by decide +kernel
theorem dX12_three_44 : decode cX12_three 44 = .ok (.iload_n 1, 1) := by decide +kernel
theorem dX12_three_45 : decode cX12_three 45 = .ok (.iconst 1, 1) := by decide +kernel
theorem dX12_three_46 : decode cX12_three 46 = .ok (.if_icmp .gt 34, 3) := by decide +kernel
theorem dX12_three_49 : decode cX12_three 49 = .ok (.iload_n 1, 1) := by decide +kernel
theorem dX12_three_50 : decode cX12_three 50 = .ok (.ifCond .ne 7, 3) := by decide +kernel
theorem dX12_three_53 : decode cX12_three 53 = .ok (.iconst 1, 1) := by decide +kernel
theorem dX12_three_54 : decode cX12_three 54 = .ok (.goto 4, 3) := by decide +kernel
theorem dX12_three_57 : decode cX12_three 57 = .ok (.iconst 0, 1) := by decide +kernel
theorem dX12_three_58 : decode cX12_three 58 = .ok (.iload 4, 2) := by decide +kernel
theorem dX12_three_60 : decode cX12_three 60 = .ok (.iload 5, 2) := by decide +kernel
theorem dX12_three_62 : decode cX12_three 62 = .ok (.invokestatic 631, 3) := by decide +kernel
theorem dX12_three_65 : decode cX12_three 65 = .ok (.istore 6, 2) := by decide +kernel
theorem dX12_three_67 : decode cX12_three 67 = .ok (.iload 6, 2) := by decide +kernel
theorem dX12_three_69 : decode cX12_three 69 = .ok (.iconst 2, 1) := by decide +kernel
theorem dX12_three_70 : decode cX12_three 70 = .ok (.if_icmp .ne 7, 3) := by decide +kernel
theorem dX12_three_73 : decode cX12_three 73 = .ok (.iconst (-1), 1) := by decide +kernel
theorem dX12_three_74 : decode cX12_three 74 = .ok (.goto 5, 3) := by decide +kernel
theorem dX12_three_77 : decode cX12_three 77 = .ok (.iload 6, 2) := by decide +kernel
theorem dX12_three_79 : decode cX12_three 79 = .ok (.ireturn, 1) := by decide +kernel
theorem dX12_three_80 : decode cX12_three 80 = .ok (.iload_n 1, 1) := by decide +kernel
theorem dX12_three_81 : decode cX12_three 81 = .ok (.iconst 2, 1) := by decide +kernel
theorem dX12_three_82 : decode cX12_three 82 = .ok (.if_icmp .ne 18, 3) := by decide +kernel
theorem dX12_three_85 : decode cX12_three 85 = .ok (.iload 4, 2) := by decide +kernel
theorem dX12_three_87 : decode cX12_three 87 = .ok (.iconst 2, 1) := by decide +kernel
theorem dX12_three_88 : decode cX12_three 88 = .ok (.if_icmp .ne 7, 3) := by decide +kernel
theorem dX12_three_91 : decode cX12_three 91 = .ok (.iconst (-1), 1) := by decide +kernel
theorem dX12_three_92 : decode cX12_three 92 = .ok (.goto 7, 3) := by decide +kernel
theorem dX12_three_95 : decode cX12_three 95 = .ok (.iconst 1, 1) := by decide +kernel
theorem dX12_three_96 : decode cX12_three 96 = .ok (.iload 4, 2) := by decide +kernel
theorem dX12_three_98 : decode cX12_three 98 = .ok (.isub, 1) := by decide +kernel
theorem dX12_three_99 : decode cX12_three 99 = .ok (.ireturn, 1) := by decide +kernel
theorem dX12_three_100 : decode cX12_three 100 = .ok (.iload 4, 2) := by decide +kernel
theorem dX12_three_102 : decode cX12_three 102 = .ok (.iconst 2, 1) := by decide +kernel
theorem dX12_three_103 : decode cX12_three 103 = .ok (.if_icmp .eq 9, 3) := by decide +kernel
theorem dX12_three_106 : decode cX12_three 106 = .ok (.iload 5, 2) := by decide +kernel
theorem dX12_three_108 : decode cX12_three 108 = .ok (.iconst 2, 1) := by decide +kernel
theorem dX12_three_109 : decode cX12_three 109 = .ok (.if_icmp .ne 5, 3) := by decide +kernel
theorem dX12_three_112 : decode cX12_three 112 = .ok (.iconst (-1), 1) := by decide +kernel
theorem dX12_three_113 : decode cX12_three 113 = .ok (.ireturn, 1) := by decide +kernel
theorem dX12_three_114 : decode cX12_three 114 = .ok (.iload_n 1, 1) := by decide +kernel
theorem dX12_three_115 : decode cX12_three 115 = .ok (.iconst 3, 1) := by decide +kernel
theorem dX12_three_116 : decode cX12_three 116 = .ok (.if_icmp .ne 18, 3) := by decide +kernel
theorem dX12_three_119 : decode cX12_three 119 = .ok (.iload 4, 2) := by decide +kernel
theorem dX12_three_121 : decode cX12_three 121 = .ok (.iload 5, 2) := by decide +kernel
theorem dX12_three_123 : decode cX12_three 123 = .ok (.if_icmp .ne 7, 3) := by decide +kernel
theorem dX12_three_126 : decode cX12_three 126 = .ok (.iconst 1, 1) := by decide +kernel
theorem dX12_three_127 : decode cX12_three 127 = .ok (.goto 32, 3) := by decide +kernel
theorem dX12_three_130 : decode cX12_three 130 = .ok (.iconst 0, 1) := by decide +kernel
theorem dX12_three_131 : decode cX12_three 131 = .ok (.goto 28, 3) := by decide +kernel
theorem dX12_three_134 : decode cX12_three 134 = .ok (.iload_n 1, 1) := by decide +kernel
theorem dX12_three_135 : decode cX12_three 135 = .ok (.iconst 4, 1) := by decide +kernel
theorem dX12_three_136 : decode cX12_three 136 = .ok (.if_icmp .ne 18, 3) := by decide +kernel
theorem dX12_three_139 : decode cX12_three 139 = .ok (.iload 4, 2) := by decide +kernel
theorem dX12_three_141 : decode cX12_three 141 = .ok (.iload 5, 2) := by decide +kernel
theorem dX12_three_143 : decode cX12_three 143 = .ok (.if_icmp .ge 7, 3) := by decide +kernel
theorem dX12_three_146 : decode cX12_three 146 = .ok (.iconst 1, 1) := by decide +kernel
theorem dX12_three_147 : decode cX12_three 147 = .ok (.goto 12, 3) := by decide +kernel
theorem dX12_three_150 : decode cX12_three 150 = .ok (.iconst 0, 1) := by decide +kernel
theorem dX12_three_151 : decode cX12_three 151 = .ok (.goto 8, 3) := by decide +kernel
theorem dX12_three_154 : decode cX12_three 154 = .ok (.iload 4, 2) := by decide +kernel
theorem dX12_three_156 : decode cX12_three 156 = .ok (.iload 5, 2) := by decide +kernel
theorem dX12_three_158 : decode cX12_three 158 = .ok (.iadd, 1) := by decide +kernel
theorem dX12_three_159 : decode cX12_three 159 = .ok (.ireturn, 1) := by decide +kernel
def m_three_b41 (F : Nat) (cs : RS) : Option Int32 := some (-2)
def m_three_b79 (F : Nat) (cs : RS) (y0 : Int32) : Option Int32 := some y0
def m_three_b58 (F : Nat) (cs : RS) (u4 : Int32) (u5 : Int32) (y0 : Int32) : Option Int32 := Option.bind (m_both F cs y0 u4 u5) fun v_1 => if v_1 = 2 then (m_three_b79 F cs (-1)) else (m_three_b79 F cs v_1)
def m_three_b99 (F : Nat) (cs : RS) (y0 : Int32) : Option Int32 := some y0
def m_three_b112 (F : Nat) (cs : RS) : Option Int32 := some (-1)
def m_three_b159 (F : Nat) (cs : RS) (y0 : Int32) : Option Int32 := some y0
def m_three_b30 (F : Nat) (cs : RS) (u1 : Int32) (u4 : Int32) (y0 : Int32) : Option Int32 := if u1 < 0 then (m_three_b41 F cs ) else (if u1 ≤ 5 then (if 1 < u1 then (if u1 = 2 then (if u4 = 2 then (m_three_b99 F cs (-1)) else (m_three_b99 F cs (1 - u4))) else (if u4 = 2 then (m_three_b112 F cs ) else (if y0 = 2 then (m_three_b112 F cs ) else (if u1 = 3 then (if u4 = y0 then (m_three_b159 F cs 1) else (m_three_b159 F cs 0)) else (if u1 = 4 then (if y0 ≤ u4 then (m_three_b159 F cs 0) else (m_three_b159 F cs 1)) else (m_three_b159 F cs (u4 + y0))))))) else (if u1 = 0 then (m_three_b58 F cs u4 y0 1) else (m_three_b58 F cs u4 y0 0))) else (m_three_b41 F cs ))
def m_three_b25 (F : Nat) (cs : RS) (u1 : Int32) (u3 : Int32) (u4 : Int32) : Option Int32 := m_three_b30 F cs u1 u4 u3
def m_three_b14 (F : Nat) (cs : RS) (u1 : Int32) (u3 : Int32) (y0 : Int32) : Option Int32 := if u3 = 0 then (m_three_b25 F cs u1 u3 y0) else (if u3 = 1 then (m_three_b25 F cs u1 u3 y0) else (m_three_b30 F cs u1 y0 2))
def m_three_b9 (F : Nat) (cs : RS) (u1 : Int32) (u2 : Int32) (u3 : Int32) : Option Int32 := m_three_b14 F cs u1 u3 u2
def m_three (F : Nat) (cs : RS) (x1 : Int32) (x2 : Int32) (x3 : Int32) : Option Int32 := if x2 = 0 then (m_three_b9 F cs x1 x2 x3) else (if x2 = 1 then (m_three_b9 F cs x1 x2 x3) else (m_three_b14 F cs x1 x3 2))
set_option maxHeartbeats 4000000 in
set_option maxRecDepth 100000 in
theorem s_three (l : Launch) (dC : Nat → ClassId) (dI : Nat → Nat → Nat) (cB cI cJ cZ : ClassId) (h0 : Nat) (a : Nat → Nat) (K V : Nat → Nat) (fz : Value) (F : Nat) (cs : RS) (x1 : Int32) (x2 : Int32) (x3 : Int32) (r9 : Int32) (hf : m_three F cs x1 x2 x3 = some r9) : okI l dC dI cB cI cJ cZ h0 a K V fz yX12_three (wsOf yX12_three cX12_three 7 (some .int)) (1) [.ref h0, .int x1, .int x2, .int x3] cs cs r9 := by
  intro sz
  refine Met.ofW (cc := cX12_three) (maxL := 7) (ret := (some .int)) (by decide) rfl ?_
  intro p e s m args below meth c s₁ B hml hv
  obtain ⟨rfl, hsz, hP, hK, hD0, hZ⟩ := hv
  have hx := B.exec
  have hb := B.bytes
  have hr := B.returns
  have hts := atoms_spec (ws := (wsOf yX12_three cX12_three 7 (some .int))) B.pre
  have hown : s.vm.findClass RX12 = some m.cls := findClass_of_methodNamed B.named
  have hlocks := B.notSynchronized
  subst hsz
  have hD := hD0.self (sz := s.heap.size)
  generalize hAe : va_A (mW cB cI cJ cZ h0 a cs) s.heap.size = A at hD hZ ⊢
  have hA : ∀ q : Nat, s.heap.size ≤ q → A q := fun q h => by rw [← hAe]; exact Or.inr h
  have hS : va_S A s.heap s.heap [] := va_S.rf
  have hl := lv_entry ([.ref h0, .int x1, .int x2, .int x3]) (n := 7) (Nat.le_of_ble_eq_true rfl)
  rw [lg_entry_eq]
  generalize (lg_sl ([.ref h0, .int x1, .int x2, .int x3]) ++ List.replicate (7 - (lg_sl ([.ref h0, .int x1, .int x2, .int x3])).length) Slot.unset).toArray = ls at hl ⊢
  have hl : lv_has ls 7 [(0, .ref h0), (1, .int x1), (2, .int x2), (3, .int x3)] := hl
  have B_41 : m_three_b41 F cs = some r9 → ∀ (H : Heap) (locs : List Loc) (ls : Array Slot), va_P (dC, dI) vwCl (mW cB cI cJ cZ h0 a cs) H → va_D A (mW cB cI cJ cZ h0 a cs) → va_S A s.heap H locs → lv_has ls 7 [] → W p l e (headSpec (wsOf yX12_three cX12_three 7 (some .int)) ({ frames := 1, cells := 0, slots := 0, locals := 60 * (1) } : Room)).room s m ([.ref h0, .int x1, .int x2, .int x3] : List Value).toArray below meth c H locs 0 0 (MQ below (va_Qi (fun (x : Int32) (_ : Unit) => x = r9) (fun _ t_ => va_P (dC, dI) vwCl (mW cB cI cJ cZ h0 a cs) t_.heap ∧ va_D A (mW cB cI cJ cZ h0 a cs)) A) ([.ref h0, .int x1, .int x2, .int x3] : List Value).toArray s 0 0 A) (F0 m 41 ls []) := by
    intro  h H locs ls hP hD hS hl
    unfold m_three_b41 at h
    refine lv_bipush (v := (-2)) hx hb dX12_three_41 (by decide) ?_
    have e2 := Option.some.inj h
    exact W.iret (v := (-2)) hx hb hr (fun t_ ht hW => ⟨⟨(-2), (), rfl, e2, by rw [ht]; exact hP, hD⟩, hS.F ht⟩) hS.2.2 dX12_three_43
  have B_79 : ∀ (y0 : Int32), m_three_b79 F cs y0 = some r9 → ∀ (H : Heap) (locs : List Loc) (ls : Array Slot), va_P (dC, dI) vwCl (mW cB cI cJ cZ h0 a cs) H → va_D A (mW cB cI cJ cZ h0 a cs) → va_S A s.heap H locs → lv_has ls 7 [] → W p l e (headSpec (wsOf yX12_three cX12_three 7 (some .int)) ({ frames := 1, cells := 0, slots := 0, locals := 60 * (1) } : Room)).room s m ([.ref h0, .int x1, .int x2, .int x3] : List Value).toArray below meth c H locs 0 0 (MQ below (va_Qi (fun (x : Int32) (_ : Unit) => x = r9) (fun _ t_ => va_P (dC, dI) vwCl (mW cB cI cJ cZ h0 a cs) t_.heap ∧ va_D A (mW cB cI cJ cZ h0 a cs)) A) ([.ref h0, .int x1, .int x2, .int x3] : List Value).toArray s 0 0 A) (F0 m 79 ls [.int y0]) := by
    intro y0 h H locs ls hP hD hS hl
    unfold m_three_b79 at h
    have e2 := Option.some.inj h
    exact W.iret (v := y0) hx hb hr (fun t_ ht hW => ⟨⟨y0, (), rfl, e2, by rw [ht]; exact hP, hD⟩, hS.F ht⟩) hS.2.2 dX12_three_79
  have B_58 : ∀ (u4 : Int32) (u5 : Int32) (y0 : Int32), m_three_b58 F cs u4 u5 y0 = some r9 → ∀ (H : Heap) (locs : List Loc) (ls : Array Slot), va_P (dC, dI) vwCl (mW cB cI cJ cZ h0 a cs) H → va_D A (mW cB cI cJ cZ h0 a cs) → va_S A s.heap H locs → lv_has ls 7 [(4, .int u4), (5, .int u5)] → W p l e (headSpec (wsOf yX12_three cX12_three 7 (some .int)) ({ frames := 1, cells := 0, slots := 0, locals := 60 * (1) } : Room)).room s m ([.ref h0, .int x1, .int x2, .int x3] : List Value).toArray below meth c H locs 0 0 (MQ below (va_Qi (fun (x : Int32) (_ : Unit) => x = r9) (fun _ t_ => va_P (dC, dI) vwCl (mW cB cI cJ cZ h0 a cs) t_.heap ∧ va_D A (mW cB cI cJ cZ h0 a cs)) A) ([.ref h0, .int x1, .int x2, .int x3] : List Value).toArray s 0 0 A) (F0 m 58 ls [.int y0]) := by
    intro u4 u5 y0 h H locs ls hP hD hS hl
    unfold m_three_b58 at h
    refine lv_iload hx hb dX12_three_58 (lv_at hl 0 rfl) ?_
    refine lv_iload hx hb dX12_three_60 (lv_at hl 1 rfl) ?_
    obtain ⟨v_1, hv_1, h⟩ := ob h
    refine calSI (As := [.int y0, .int u4, .int u5]) hx hb hml hts hown hK hP hD hS hA hZ (s_both l dC dI cB cI cJ cZ h0 a K V fz F cs y0 u4 u5 v_1 hv_1) (cw_both hts (fr := 0) (Nat.le_of_ble_eq_true rfl) (Nat.le_of_ble_eq_true rfl)) rfl hl.1 (Nat.le_of_ble_eq_true rfl) ⟨Nat.zero_le _, Nat.zero_le _⟩ dX12_three_62 (fun H locs hP hD hS => ?_)
    refine lv_istore (lv' := [(6, .int v_1), (4, .int u4), (5, .int u5)]) hx hb dX12_three_65 hl (by decide) rfl (fun ls hl => ?_)
    refine lv_iload hx hb dX12_three_67 (lv_at hl 0 rfl) ?_
    refine lv_iconst (v := 2) hx hb dX12_three_69 (by decide) ?_
    refine lv_icmp_ne (tgt := 77) hx hb dX12_three_70 (by decide) (fun c_2 => ?_) (fun c_2 => ?_)
    · skip
      replace h := (if_neg c_2).symm.trans h
      refine lv_iload hx hb dX12_three_77 (lv_at hl 0 rfl) ?_
      exact B_79 v_1 h _ _ _ hP hD hS (lv_sub hl [] rfl)
    · skip
      replace h := (if_pos c_2).symm.trans h
      refine lv_iconst (v := (-1)) hx hb dX12_three_73 (by decide) ?_
      refine lv_goto (tgt := 79) hx hb dX12_three_74 (by decide) ?_
      exact B_79 (-1) h _ _ _ hP hD hS (lv_sub hl [] rfl)
  have B_99 : ∀ (y0 : Int32), m_three_b99 F cs y0 = some r9 → ∀ (H : Heap) (locs : List Loc) (ls : Array Slot), va_P (dC, dI) vwCl (mW cB cI cJ cZ h0 a cs) H → va_D A (mW cB cI cJ cZ h0 a cs) → va_S A s.heap H locs → lv_has ls 7 [] → W p l e (headSpec (wsOf yX12_three cX12_three 7 (some .int)) ({ frames := 1, cells := 0, slots := 0, locals := 60 * (1) } : Room)).room s m ([.ref h0, .int x1, .int x2, .int x3] : List Value).toArray below meth c H locs 0 0 (MQ below (va_Qi (fun (x : Int32) (_ : Unit) => x = r9) (fun _ t_ => va_P (dC, dI) vwCl (mW cB cI cJ cZ h0 a cs) t_.heap ∧ va_D A (mW cB cI cJ cZ h0 a cs)) A) ([.ref h0, .int x1, .int x2, .int x3] : List Value).toArray s 0 0 A) (F0 m 99 ls [.int y0]) := by
    intro y0 h H locs ls hP hD hS hl
    unfold m_three_b99 at h
    have e2 := Option.some.inj h
    exact W.iret (v := y0) hx hb hr (fun t_ ht hW => ⟨⟨y0, (), rfl, e2, by rw [ht]; exact hP, hD⟩, hS.F ht⟩) hS.2.2 dX12_three_99
  have B_112 : m_three_b112 F cs = some r9 → ∀ (H : Heap) (locs : List Loc) (ls : Array Slot), va_P (dC, dI) vwCl (mW cB cI cJ cZ h0 a cs) H → va_D A (mW cB cI cJ cZ h0 a cs) → va_S A s.heap H locs → lv_has ls 7 [] → W p l e (headSpec (wsOf yX12_three cX12_three 7 (some .int)) ({ frames := 1, cells := 0, slots := 0, locals := 60 * (1) } : Room)).room s m ([.ref h0, .int x1, .int x2, .int x3] : List Value).toArray below meth c H locs 0 0 (MQ below (va_Qi (fun (x : Int32) (_ : Unit) => x = r9) (fun _ t_ => va_P (dC, dI) vwCl (mW cB cI cJ cZ h0 a cs) t_.heap ∧ va_D A (mW cB cI cJ cZ h0 a cs)) A) ([.ref h0, .int x1, .int x2, .int x3] : List Value).toArray s 0 0 A) (F0 m 112 ls []) := by
    intro  h H locs ls hP hD hS hl
    unfold m_three_b112 at h
    refine lv_iconst (v := (-1)) hx hb dX12_three_112 (by decide) ?_
    have e2 := Option.some.inj h
    exact W.iret (v := (-1)) hx hb hr (fun t_ ht hW => ⟨⟨(-1), (), rfl, e2, by rw [ht]; exact hP, hD⟩, hS.F ht⟩) hS.2.2 dX12_three_113
  have B_159 : ∀ (y0 : Int32), m_three_b159 F cs y0 = some r9 → ∀ (H : Heap) (locs : List Loc) (ls : Array Slot), va_P (dC, dI) vwCl (mW cB cI cJ cZ h0 a cs) H → va_D A (mW cB cI cJ cZ h0 a cs) → va_S A s.heap H locs → lv_has ls 7 [] → W p l e (headSpec (wsOf yX12_three cX12_three 7 (some .int)) ({ frames := 1, cells := 0, slots := 0, locals := 60 * (1) } : Room)).room s m ([.ref h0, .int x1, .int x2, .int x3] : List Value).toArray below meth c H locs 0 0 (MQ below (va_Qi (fun (x : Int32) (_ : Unit) => x = r9) (fun _ t_ => va_P (dC, dI) vwCl (mW cB cI cJ cZ h0 a cs) t_.heap ∧ va_D A (mW cB cI cJ cZ h0 a cs)) A) ([.ref h0, .int x1, .int x2, .int x3] : List Value).toArray s 0 0 A) (F0 m 159 ls [.int y0]) := by
    intro y0 h H locs ls hP hD hS hl
    unfold m_three_b159 at h
    have e2 := Option.some.inj h
    exact W.iret (v := y0) hx hb hr (fun t_ ht hW => ⟨⟨y0, (), rfl, e2, by rw [ht]; exact hP, hD⟩, hS.F ht⟩) hS.2.2 dX12_three_159
  have B_30 : ∀ (u1 : Int32) (u4 : Int32) (y0 : Int32), m_three_b30 F cs u1 u4 y0 = some r9 → ∀ (H : Heap) (locs : List Loc) (ls : Array Slot), va_P (dC, dI) vwCl (mW cB cI cJ cZ h0 a cs) H → va_D A (mW cB cI cJ cZ h0 a cs) → va_S A s.heap H locs → lv_has ls 7 [(1, .int u1), (4, .int u4)] → W p l e (headSpec (wsOf yX12_three cX12_three 7 (some .int)) ({ frames := 1, cells := 0, slots := 0, locals := 60 * (1) } : Room)).room s m ([.ref h0, .int x1, .int x2, .int x3] : List Value).toArray below meth c H locs 0 0 (MQ below (va_Qi (fun (x : Int32) (_ : Unit) => x = r9) (fun _ t_ => va_P (dC, dI) vwCl (mW cB cI cJ cZ h0 a cs) t_.heap ∧ va_D A (mW cB cI cJ cZ h0 a cs)) A) ([.ref h0, .int x1, .int x2, .int x3] : List Value).toArray s 0 0 A) (F0 m 30 ls [.int y0]) := by
    intro u1 u4 y0 h H locs ls hP hD hS hl
    unfold m_three_b30 at h
    refine lv_istore (lv' := [(5, .int y0), (1, .int u1), (4, .int u4)]) hx hb dX12_three_30 hl (by decide) rfl (fun ls hl => ?_)
    refine lv_iload_n hx hb dX12_three_32 rfl (lv_at hl 1 rfl) ?_
    refine lv_if_lt (tgt := 41) hx hb dX12_three_33 (by decide) (fun c_3 => ?_) (fun c_3 => ?_)
    · skip
      replace h := (if_pos c_3).symm.trans h
      exact B_41  h _ _ _ hP hD hS (lv_sub hl [] rfl)
    · skip
      replace h := (if_neg c_3).symm.trans h
      refine lv_iload_n hx hb dX12_three_36 rfl (lv_at hl 1 rfl) ?_
      refine lv_iconst (v := 5) hx hb dX12_three_37 (by decide) ?_
      refine lv_icmp_le (tgt := 44) hx hb dX12_three_38 (by decide) (fun c_4 => ?_) (fun c_4 => ?_)
      · skip
        replace h := (if_pos c_4).symm.trans h
        refine lv_iload_n hx hb dX12_three_44 rfl (lv_at hl 1 rfl) ?_
        refine lv_iconst (v := 1) hx hb dX12_three_45 (by decide) ?_
        refine lv_icmp_gt (tgt := 80) hx hb dX12_three_46 (by decide) (fun c_5 => ?_) (fun c_5 => ?_)
        · skip
          replace h := (if_pos c_5).symm.trans h
          refine lv_iload_n hx hb dX12_three_80 rfl (lv_at hl 1 rfl) ?_
          refine lv_iconst (v := 2) hx hb dX12_three_81 (by decide) ?_
          refine lv_icmp_ne (tgt := 100) hx hb dX12_three_82 (by decide) (fun c_6 => ?_) (fun c_6 => ?_)
          · skip
            replace h := (if_neg c_6).symm.trans h
            refine lv_iload hx hb dX12_three_100 (lv_at hl 2 rfl) ?_
            refine lv_iconst (v := 2) hx hb dX12_three_102 (by decide) ?_
            refine lv_icmp_eq (tgt := 112) hx hb dX12_three_103 (by decide) (fun c_7 => ?_) (fun c_7 => ?_)
            · skip
              replace h := (if_pos c_7).symm.trans h
              exact B_112  h _ _ _ hP hD hS (lv_sub hl [] rfl)
            · skip
              replace h := (if_neg c_7).symm.trans h
              refine lv_iload hx hb dX12_three_106 (lv_at hl 0 rfl) ?_
              refine lv_iconst (v := 2) hx hb dX12_three_108 (by decide) ?_
              refine lv_icmp_ne (tgt := 114) hx hb dX12_three_109 (by decide) (fun c_8 => ?_) (fun c_8 => ?_)
              · skip
                replace h := (if_neg c_8).symm.trans h
                refine lv_iload_n hx hb dX12_three_114 rfl (lv_at hl 1 rfl) ?_
                refine lv_iconst (v := 3) hx hb dX12_three_115 (by decide) ?_
                refine lv_icmp_ne (tgt := 134) hx hb dX12_three_116 (by decide) (fun c_9 => ?_) (fun c_9 => ?_)
                · skip
                  replace h := (if_neg c_9).symm.trans h
                  refine lv_iload_n hx hb dX12_three_134 rfl (lv_at hl 1 rfl) ?_
                  refine lv_iconst (v := 4) hx hb dX12_three_135 (by decide) ?_
                  refine lv_icmp_ne (tgt := 154) hx hb dX12_three_136 (by decide) (fun c_10 => ?_) (fun c_10 => ?_)
                  · skip
                    replace h := (if_neg c_10).symm.trans h
                    refine lv_iload hx hb dX12_three_154 (lv_at hl 2 rfl) ?_
                    refine lv_iload hx hb dX12_three_156 (lv_at hl 0 rfl) ?_
                    refine lv_iadd hx hb dX12_three_158 ?_
                    exact B_159 (u4 + y0) h _ _ _ hP hD hS (lv_sub hl [] rfl)
                  · skip
                    replace h := (if_pos c_10).symm.trans h
                    refine lv_iload hx hb dX12_three_139 (lv_at hl 2 rfl) ?_
                    refine lv_iload hx hb dX12_three_141 (lv_at hl 0 rfl) ?_
                    refine lv_icmp_ge (tgt := 150) hx hb dX12_three_143 (by decide) (fun c_11 => ?_) (fun c_11 => ?_)
                    · skip
                      replace h := (if_pos c_11).symm.trans h
                      refine lv_iconst (v := 0) hx hb dX12_three_150 (by decide) ?_
                      refine lv_goto (tgt := 159) hx hb dX12_three_151 (by decide) ?_
                      exact B_159 0 h _ _ _ hP hD hS (lv_sub hl [] rfl)
                    · skip
                      replace h := (if_neg c_11).symm.trans h
                      refine lv_iconst (v := 1) hx hb dX12_three_146 (by decide) ?_
                      refine lv_goto (tgt := 159) hx hb dX12_three_147 (by decide) ?_
                      exact B_159 1 h _ _ _ hP hD hS (lv_sub hl [] rfl)
                · skip
                  replace h := (if_pos c_9).symm.trans h
                  refine lv_iload hx hb dX12_three_119 (lv_at hl 2 rfl) ?_
                  refine lv_iload hx hb dX12_three_121 (lv_at hl 0 rfl) ?_
                  refine lv_icmp_ne (tgt := 130) hx hb dX12_three_123 (by decide) (fun c_12 => ?_) (fun c_12 => ?_)
                  · skip
                    replace h := (if_neg c_12).symm.trans h
                    refine lv_iconst (v := 0) hx hb dX12_three_130 (by decide) ?_
                    refine lv_goto (tgt := 159) hx hb dX12_three_131 (by decide) ?_
                    exact B_159 0 h _ _ _ hP hD hS (lv_sub hl [] rfl)
                  · skip
                    replace h := (if_pos c_12).symm.trans h
                    refine lv_iconst (v := 1) hx hb dX12_three_126 (by decide) ?_
                    refine lv_goto (tgt := 159) hx hb dX12_three_127 (by decide) ?_
                    exact B_159 1 h _ _ _ hP hD hS (lv_sub hl [] rfl)
              · skip
                replace h := (if_pos c_8).symm.trans h
                exact B_112  h _ _ _ hP hD hS (lv_sub hl [] rfl)
          · skip
            replace h := (if_pos c_6).symm.trans h
            refine lv_iload hx hb dX12_three_85 (lv_at hl 2 rfl) ?_
            refine lv_iconst (v := 2) hx hb dX12_three_87 (by decide) ?_
            refine lv_icmp_ne (tgt := 95) hx hb dX12_three_88 (by decide) (fun c_13 => ?_) (fun c_13 => ?_)
            · skip
              replace h := (if_neg c_13).symm.trans h
              refine lv_iconst (v := 1) hx hb dX12_three_95 (by decide) ?_
              refine lv_iload hx hb dX12_three_96 (lv_at hl 2 rfl) ?_
              refine lv_isub hx hb dX12_three_98 ?_
              exact B_99 (1 - u4) h _ _ _ hP hD hS (lv_sub hl [] rfl)
            · skip
              replace h := (if_pos c_13).symm.trans h
              refine lv_iconst (v := (-1)) hx hb dX12_three_91 (by decide) ?_
              refine lv_goto (tgt := 99) hx hb dX12_three_92 (by decide) ?_
              exact B_99 (-1) h _ _ _ hP hD hS (lv_sub hl [] rfl)
        · skip
          replace h := (if_neg c_5).symm.trans h
          refine lv_iload_n hx hb dX12_three_49 rfl (lv_at hl 1 rfl) ?_
          refine lv_if_ne (tgt := 57) hx hb dX12_three_50 (by decide) (fun c_14 => ?_) (fun c_14 => ?_)
          · skip
            replace h := (if_neg c_14).symm.trans h
            refine lv_iconst (v := 0) hx hb dX12_three_57 (by decide) ?_
            exact B_58 u4 y0 0 h _ _ _ hP hD hS (lv_sub hl [2, 0] rfl)
          · skip
            replace h := (if_pos c_14).symm.trans h
            refine lv_iconst (v := 1) hx hb dX12_three_53 (by decide) ?_
            refine lv_goto (tgt := 58) hx hb dX12_three_54 (by decide) ?_
            exact B_58 u4 y0 1 h _ _ _ hP hD hS (lv_sub hl [2, 0] rfl)
      · skip
        replace h := (if_neg c_4).symm.trans h
        exact B_41  h _ _ _ hP hD hS (lv_sub hl [] rfl)
  have B_25 : ∀ (u1 : Int32) (u3 : Int32) (u4 : Int32), m_three_b25 F cs u1 u3 u4 = some r9 → ∀ (H : Heap) (locs : List Loc) (ls : Array Slot), va_P (dC, dI) vwCl (mW cB cI cJ cZ h0 a cs) H → va_D A (mW cB cI cJ cZ h0 a cs) → va_S A s.heap H locs → lv_has ls 7 [(1, .int u1), (3, .int u3), (4, .int u4)] → W p l e (headSpec (wsOf yX12_three cX12_three 7 (some .int)) ({ frames := 1, cells := 0, slots := 0, locals := 60 * (1) } : Room)).room s m ([.ref h0, .int x1, .int x2, .int x3] : List Value).toArray below meth c H locs 0 0 (MQ below (va_Qi (fun (x : Int32) (_ : Unit) => x = r9) (fun _ t_ => va_P (dC, dI) vwCl (mW cB cI cJ cZ h0 a cs) t_.heap ∧ va_D A (mW cB cI cJ cZ h0 a cs)) A) ([.ref h0, .int x1, .int x2, .int x3] : List Value).toArray s 0 0 A) (F0 m 25 ls []) := by
    intro u1 u3 u4 h H locs ls hP hD hS hl
    unfold m_three_b25 at h
    refine lv_iload_n hx hb dX12_three_25 rfl (lv_at hl 1 rfl) ?_
    refine lv_goto (tgt := 30) hx hb dX12_three_26 (by decide) ?_
    exact B_30 u1 u4 u3 h _ _ _ hP hD hS (lv_sub hl [0, 2] rfl)
  have B_14 : ∀ (u1 : Int32) (u3 : Int32) (y0 : Int32), m_three_b14 F cs u1 u3 y0 = some r9 → ∀ (H : Heap) (locs : List Loc) (ls : Array Slot), va_P (dC, dI) vwCl (mW cB cI cJ cZ h0 a cs) H → va_D A (mW cB cI cJ cZ h0 a cs) → va_S A s.heap H locs → lv_has ls 7 [(1, .int u1), (3, .int u3)] → W p l e (headSpec (wsOf yX12_three cX12_three 7 (some .int)) ({ frames := 1, cells := 0, slots := 0, locals := 60 * (1) } : Room)).room s m ([.ref h0, .int x1, .int x2, .int x3] : List Value).toArray below meth c H locs 0 0 (MQ below (va_Qi (fun (x : Int32) (_ : Unit) => x = r9) (fun _ t_ => va_P (dC, dI) vwCl (mW cB cI cJ cZ h0 a cs) t_.heap ∧ va_D A (mW cB cI cJ cZ h0 a cs)) A) ([.ref h0, .int x1, .int x2, .int x3] : List Value).toArray s 0 0 A) (F0 m 14 ls [.int y0]) := by
    intro u1 u3 y0 h H locs ls hP hD hS hl
    unfold m_three_b14 at h
    refine lv_istore (lv' := [(4, .int y0), (1, .int u1), (3, .int u3)]) hx hb dX12_three_14 hl (by decide) rfl (fun ls hl => ?_)
    refine lv_iload_n hx hb dX12_three_16 rfl (lv_at hl 2 rfl) ?_
    refine lv_if_eq (tgt := 25) hx hb dX12_three_17 (by decide) (fun c_15 => ?_) (fun c_15 => ?_)
    · skip
      replace h := (if_pos c_15).symm.trans h
      exact B_25 u1 u3 y0 h _ _ _ hP hD hS (lv_sub hl [1, 2, 0] rfl)
    · skip
      replace h := (if_neg c_15).symm.trans h
      refine lv_iload_n hx hb dX12_three_20 rfl (lv_at hl 2 rfl) ?_
      refine lv_iconst (v := 1) hx hb dX12_three_21 (by decide) ?_
      refine lv_icmp_ne (tgt := 29) hx hb dX12_three_22 (by decide) (fun c_16 => ?_) (fun c_16 => ?_)
      · skip
        replace h := (if_neg c_16).symm.trans h
        refine lv_iconst (v := 2) hx hb dX12_three_29 (by decide) ?_
        exact B_30 u1 y0 2 h _ _ _ hP hD hS (lv_sub hl [1, 0] rfl)
      · skip
        replace h := (if_pos c_16).symm.trans h
        exact B_25 u1 u3 y0 h _ _ _ hP hD hS (lv_sub hl [1, 2, 0] rfl)
  have B_9 : ∀ (u1 : Int32) (u2 : Int32) (u3 : Int32), m_three_b9 F cs u1 u2 u3 = some r9 → ∀ (H : Heap) (locs : List Loc) (ls : Array Slot), va_P (dC, dI) vwCl (mW cB cI cJ cZ h0 a cs) H → va_D A (mW cB cI cJ cZ h0 a cs) → va_S A s.heap H locs → lv_has ls 7 [(1, .int u1), (2, .int u2), (3, .int u3)] → W p l e (headSpec (wsOf yX12_three cX12_three 7 (some .int)) ({ frames := 1, cells := 0, slots := 0, locals := 60 * (1) } : Room)).room s m ([.ref h0, .int x1, .int x2, .int x3] : List Value).toArray below meth c H locs 0 0 (MQ below (va_Qi (fun (x : Int32) (_ : Unit) => x = r9) (fun _ t_ => va_P (dC, dI) vwCl (mW cB cI cJ cZ h0 a cs) t_.heap ∧ va_D A (mW cB cI cJ cZ h0 a cs)) A) ([.ref h0, .int x1, .int x2, .int x3] : List Value).toArray s 0 0 A) (F0 m 9 ls []) := by
    intro u1 u2 u3 h H locs ls hP hD hS hl
    unfold m_three_b9 at h
    refine lv_iload_n hx hb dX12_three_9 rfl (lv_at hl 1 rfl) ?_
    refine lv_goto (tgt := 14) hx hb dX12_three_10 (by decide) ?_
    exact B_14 u1 u3 u2 h _ _ _ hP hD hS (lv_sub hl [0, 2] rfl)
  have h := hf
  unfold m_three at h
  refine lv_iload_n hx hb dX12_three_0 rfl (lv_at hl 2 rfl) ?_
  refine lv_if_eq (tgt := 9) hx hb dX12_three_1 (by decide) (fun c_17 => ?_) (fun c_17 => ?_)
  · skip
    replace h := (if_pos c_17).symm.trans h
    exact B_9 x1 x2 x3 h _ _ _ hP hD hS (lv_sub hl [1, 2, 3] rfl)
  · skip
    replace h := (if_neg c_17).symm.trans h
    refine lv_iload_n hx hb dX12_three_4 rfl (lv_at hl 2 rfl) ?_
    refine lv_iconst (v := 1) hx hb dX12_three_5 (by decide) ?_
    refine lv_icmp_ne (tgt := 13) hx hb dX12_three_6 (by decide) (fun c_18 => ?_) (fun c_18 => ?_)
    · skip
      replace h := (if_neg c_18).symm.trans h
      refine lv_iconst (v := 2) hx hb dX12_three_13 (by decide) ?_
      exact B_14 x1 x3 2 h _ _ _ hP hD hS (lv_sub hl [1, 3] rfl)
    · skip
      replace h := (if_pos c_18).symm.trans h
      exact B_9 x1 x2 x3 h _ _ _ hP hD hS (lv_sub hl [1, 2, 3] rfl)
theorem dX12_told_0 : decode cX12_told 0 = .ok (.iload_n 1, 1) := by decide +kernel
theorem dX12_told_1 : decode cX12_told 1 = .ok (.ifCond .ne 8, 3) := by decide +kernel
theorem dX12_told_4 : decode cX12_told 4 = .ok (.aload_n 0, 1) := by decide +kernel
theorem dX12_told_5 : decode cX12_told 5 = .ok (.getfield 261, 3) := by decide +kernel
theorem dX12_told_8 : decode cX12_told 8 = .ok (.ireturn, 1) := by decide +kernel
theorem dX12_told_9 : decode cX12_told 9 = .ok (.iconst 0, 1) := by decide +kernel
theorem dX12_told_10 : decode cX12_told 10 = .ok (.istore_n 2, 1) := by decide +kernel
theorem dX12_told_11 : decode cX12_told 11 = .ok (.iload_n 1, 1) := by decide +kernel
theorem dX12_told_12 : decode cX12_told 12 = .ok (.iconst 1, 1) := by decide +kernel
theorem dX12_told_13 : decode cX12_told 13 = .ok (.if_icmp .ne 36, 3) := by decide +kernel
theorem dX12_told_16 : decode cX12_told 16 = .ok (.iconst 0, 1) := by decide +kernel
theorem dX12_told_17 : decode cX12_told 17 = .ok (.istore_n 3, 1) := by decide +kernel
theorem dX12_told_18 : decode cX12_told 18 = .ok (.iload_n 3, 1) := by decide +kernel
theorem dX12_told_19 : decode cX12_told 19 = .ok (.bipush 48, 2) := by decide +kernel
theorem dX12_told_21 : decode cX12_told 21 = .ok (.if_icmp .ge 26, 3) := by decide +kernel
theorem dX12_told_24 : decode cX12_told 24 = .ok (.iload_n 2, 1) := by decide +kernel
theorem dX12_told_25 : decode cX12_told 25 = .ok (.aload_n 0, 1) := by decide +kernel
theorem dX12_told_26 : decode cX12_told 26 = .ok (.getfield 20, 3) := by decide +kernel
theorem dX12_told_29 : decode cX12_told 29 = .ok (.iload_n 3, 1) := by decide +kernel
theorem dX12_told_30 : decode cX12_told 30 = .ok (.baload, 1) := by decide +kernel
theorem dX12_told_31 : decode cX12_told 31 = .ok (.ifCond .eq 7, 3) := by decide +kernel
theorem dX12_told_34 : decode cX12_told 34 = .ok (.iconst 1, 1) := by decide +kernel
theorem dX12_told_35 : decode cX12_told 35 = .ok (.goto 4, 3) := by decide +kernel
theorem dX12_told_38 : decode cX12_told 38 = .ok (.iconst 0, 1) := by decide +kernel
theorem dX12_told_39 : decode cX12_told 39 = .ok (.iadd, 1) := by decide +kernel
theorem dX12_told_40 : decode cX12_told 40 = .ok (.istore_n 2, 1) := by decide +kernel
theorem dX12_told_41 : decode cX12_told 41 = .ok (.iinc 3 1, 3) := by decide +kernel
theorem dX12_told_44 : decode cX12_told 44 = .ok (.goto (-26), 3) := by decide +kernel
theorem dX12_told_47 : decode cX12_told 47 = .ok (.iload_n 2, 1) := by decide +kernel
theorem dX12_told_48 : decode cX12_told 48 = .ok (.ireturn, 1) := by decide +kernel
theorem dX12_told_49 : decode cX12_told 49 = .ok (.iload_n 1, 1) := by decide +kernel
theorem dX12_told_50 : decode cX12_told 50 = .ok (.iconst 2, 1) := by decide +kernel
theorem dX12_told_51 : decode cX12_told 51 = .ok (.if_icmp .ne 113, 3) := by decide +kernel
theorem dX12_told_54 : decode cX12_told 54 = .ok (.iconst 0, 1) := by decide +kernel
theorem dX12_told_55 : decode cX12_told 55 = .ok (.istore_n 3, 1) := by decide +kernel
theorem dX12_told_56 : decode cX12_told 56 = .ok (.aload_n 0, 1) := by decide +kernel
theorem dX12_told_57 : decode cX12_told 57 = .ok (.getfield 584, 3) := by decide +kernel
theorem dX12_told_60 : decode cX12_told 60 = .ok (.ifCond .eq 102, 3) := by decide +kernel
theorem dX12_told_63 : decode cX12_told 63 = .ok (.iload_n 3, 1) := by decide +kernel
theorem dX12_told_64 : decode cX12_told 64 = .ok (.aload_n 0, 1) := by decide +kernel
theorem dX12_told_65 : decode cX12_told 65 = .ok (.getfield 477, 3) := by decide +kernel
theorem dX12_told_68 : decode cX12_told 68 = .ok (.if_icmp .ge 94, 3) := by decide +kernel
theorem dX12_told_71 : decode cX12_told 71 = .ok (.iconst 0, 1) := by decide +kernel
theorem dX12_told_72 : decode cX12_told 72 = .ok (.istore 4, 2) := by decide +kernel
theorem dX12_told_74 : decode cX12_told 74 = .ok (.iload 4, 2) := by decide +kernel
theorem dX12_told_76 : decode cX12_told 76 = .ok (.aload_n 0, 1) := by decide +kernel
theorem dX12_told_77 : decode cX12_told 77 = .ok (.getfield 91, 3) := by decide +kernel
theorem dX12_told_80 : decode cX12_told 80 = .ok (.iload_n 3, 1) := by decide +kernel
theorem dX12_told_81 : decode cX12_told 81 = .ok (.iaload, 1) := by decide +kernel
theorem dX12_told_82 : decode cX12_told 82 = .ok (.if_icmp .ge 74, 3) := by decide +kernel
theorem dX12_told_85 : decode cX12_told 85 = .ok (.iconst 3, 1) := by decide +kernel
theorem dX12_told_86 : decode cX12_told 86 = .ok (.iload_n 3, 1) := by decide +kernel
theorem dX12_told_87 : decode cX12_told 87 = .ok (.imul, 1) := by decide +kernel
theorem dX12_told_88 : decode cX12_told 88 = .ok (.iload 4, 2) := by decide +kernel
theorem dX12_told_90 : decode cX12_told 90 = .ok (.iadd, 1) := by decide +kernel
theorem dX12_told_91 : decode cX12_told 91 = .ok (.istore 5, 2) := by decide +kernel
theorem dX12_told_93 : decode cX12_told 93 = .ok (.iconst 0, 1) := by decide +kernel
theorem dX12_told_94 : decode cX12_told 94 = .ok (.istore 6, 2) := by decide +kernel
theorem dX12_told_96 : decode cX12_told 96 = .ok (.iload 6, 2) := by decide +kernel
theorem dX12_told_98 : decode cX12_told 98 = .ok (.bipush 8, 2) := by decide +kernel
theorem dX12_told_100 : decode cX12_told 100 = .ok (.if_icmp .ge 50, 3) := by decide +kernel
theorem dX12_told_103 : decode cX12_told 103 = .ok (.aload_n 0, 1) := by decide +kernel
theorem dX12_told_104 : decode cX12_told 104 = .ok (.getfield 127, 3) := by decide +kernel
theorem dX12_told_107 : decode cX12_told 107 = .ok (.iload 5, 2) := by decide +kernel
theorem dX12_told_109 : decode cX12_told 109 = .ok (.iaload, 1) := by decide +kernel
theorem dX12_told_110 : decode cX12_told 110 = .ok (.iconst (-1), 1) := by decide +kernel
theorem dX12_told_111 : decode cX12_told 111 = .ok (.if_icmp .eq 39, 3) := by decide +kernel
theorem dX12_told_114 : decode cX12_told 114 = .ok (.iload_n 2, 1) := by decide +kernel
theorem dX12_told_115 : decode cX12_told 115 = .ok (.aload_n 0, 1) := by decide +kernel
theorem dX12_told_116 : decode cX12_told 116 = .ok (.iload 5, 2) := by decide +kernel
theorem dX12_told_118 : decode cX12_told 118 = .ok (.bipush 8, 2) := by decide +kernel
theorem dX12_told_120 : decode cX12_told 120 = .ok (.aload_n 0, 1) := by decide +kernel
theorem dX12_told_121 : decode cX12_told 121 = .ok (.getfield 127, 3) := by decide +kernel
theorem dX12_told_124 : decode cX12_told 124 = .ok (.iload 5, 2) := by decide +kernel
theorem dX12_told_126 : decode cX12_told 126 = .ok (.iaload, 1) := by decide +kernel
theorem dX12_told_127 : decode cX12_told 127 = .ok (.imul, 1) := by decide +kernel
theorem dX12_told_128 : decode cX12_told 128 = .ok (.iload 6, 2) := by decide +kernel
theorem dX12_told_130 : decode cX12_told 130 = .ok (.iadd, 1) := by decide +kernel
theorem dX12_told_131 : decode cX12_told 131 = .ok (.invokevirtual 665, 3) := by decide +kernel
theorem dX12_told_134 : decode cX12_told 134 = .ok (.ifCond .eq 7, 3) := by decide +kernel
theorem dX12_told_137 : decode cX12_told 137 = .ok (.iconst 1, 1) := by decide +kernel
theorem dX12_told_138 : decode cX12_told 138 = .ok (.goto 4, 3) := by decide +kernel
theorem dX12_told_141 : decode cX12_told 141 = .ok (.iconst 0, 1) := by decide +kernel
theorem dX12_told_142 : decode cX12_told 142 = .ok (.iadd, 1) := by decide +kernel
theorem dX12_told_143 : decode cX12_told 143 = .ok (.istore_n 2, 1) := by decide +kernel
theorem dX12_told_144 : decode cX12_told 144 = .ok (.iinc 6 1, 3) := by decide +kernel
theorem dX12_told_147 : decode cX12_told 147 = .ok (.goto (-51), 3) := by decide +kernel
theorem dX12_told_150 : decode cX12_told 150 = .ok (.iinc 4 1, 3) := by decide +kernel
theorem dX12_told_153 : decode cX12_told 153 = .ok (.goto (-79), 3) := by decide +kernel
theorem dX12_told_156 : decode cX12_told 156 = .ok (.iinc 3 1, 3) := by decide +kernel
theorem dX12_told_159 : decode cX12_told 159 = .ok (.goto (-103), 3) := by decide +kernel
theorem dX12_told_162 : decode cX12_told 162 = .ok (.iload_n 2, 1) := by decide +kernel
theorem dX12_told_163 : decode cX12_told 163 = .ok (.ireturn, 1) := by decide +kernel
theorem dX12_told_164 : decode cX12_told 164 = .ok (.iload_n 1, 1) := by decide +kernel
theorem dX12_told_165 : decode cX12_told 165 = .ok (.iconst 3, 1) := by decide +kernel
theorem dX12_told_166 : decode cX12_told 166 = .ok (.if_icmp .ne 21, 3) := by decide +kernel
theorem dX12_told_169 : decode cX12_told 169 = .ok (.aload_n 0, 1) := by decide +kernel
theorem dX12_told_170 : decode cX12_told 170 = .ok (.getfield 584, 3) := by decide +kernel
theorem dX12_told_173 : decode cX12_told 173 = .ok (.ifCond .eq 10, 3) := by decide +kernel
theorem dX12_told_176 : decode cX12_told 176 = .ok (.aload_n 0, 1) := by decide +kernel
theorem dX12_told_177 : decode cX12_told 177 = .ok (.getfield 378, 3) := by decide +kernel
theorem dX12_told_180 : decode cX12_told 180 = .ok (.goto 51, 3) := by decide +kernel
theorem dX12_told_183 : decode cX12_told 183 = .ok (.iconst 0, 1) := by decide +kernel
theorem dX12_told_184 : decode cX12_told 184 = .ok (.goto 47, 3) := by decide +kernel
theorem dX12_told_187 : decode cX12_told 187 = .ok (.iload_n 1, 1) := by decide +kernel
theorem dX12_told_188 : decode cX12_told 188 = .ok (.iconst 4, 1) := by decide +kernel
theorem dX12_told_189 : decode cX12_told 189 = .ok (.if_icmp .ne 21, 3) := by decide +kernel
theorem dX12_told_192 : decode cX12_told 192 = .ok (.aload_n 0, 1) := by decide +kernel
theorem dX12_told_193 : decode cX12_told 193 = .ok (.getfield 584, 3) := by decide +kernel
theorem dX12_told_196 : decode cX12_told 196 = .ok (.ifCond .eq 10, 3) := by decide +kernel
theorem dX12_told_199 : decode cX12_told 199 = .ok (.aload_n 0, 1) := by decide +kernel
theorem dX12_told_200 : decode cX12_told 200 = .ok (.getfield 503, 3) := by decide +kernel
theorem dX12_told_203 : decode cX12_told 203 = .ok (.goto 28, 3) := by decide +kernel
theorem dX12_told_206 : decode cX12_told 206 = .ok (.iconst 0, 1) := by decide +kernel
theorem dX12_told_207 : decode cX12_told 207 = .ok (.goto 24, 3) := by decide +kernel
theorem dX12_told_210 : decode cX12_told 210 = .ok (.iload_n 1, 1) := by decide +kernel
theorem dX12_told_211 : decode cX12_told 211 = .ok (.iconst 5, 1) := by decide +kernel
theorem dX12_told_212 : decode cX12_told 212 = .ok (.if_icmp .ne 18, 3) := by decide +kernel
theorem dX12_told_215 : decode cX12_told 215 = .ok (.aload_n 0, 1) := by decide +kernel
theorem dX12_told_216 : decode cX12_told 216 = .ok (.getfield 584, 3) := by decide +kernel
theorem dX12_told_219 : decode cX12_told 219 = .ok (.ifCond .eq 7, 3) := by decide +kernel
theorem dX12_told_222 : decode cX12_told 222 = .ok (.iconst 1, 1) := by decide +kernel
theorem dX12_told_223 : decode cX12_told 223 = .ok (.goto 8, 3) := by decide +kernel
theorem dX12_told_226 : decode cX12_told 226 = .ok (.iconst 0, 1) := by decide +kernel
theorem dX12_told_227 : decode cX12_told 227 = .ok (.goto 4, 3) := by decide +kernel
theorem dX12_told_230 : decode cX12_told 230 = .ok (.iconst (-1), 1) := by decide +kernel
theorem dX12_told_231 : decode cX12_told 231 = .ok (.ireturn, 1) := by decide +kernel
def m_told_b39 (F : Nat) (cs : RS) (rc18 : Int32 → Int32 → Option Int32) (u3 : Int32) (y0 : Int32) (y1 : Int32) : Option Int32 := rc18 (y1 + y0) (u3 + 1)
def m_told_L18 (F : Nat) (cs : RS) : Nat → Int32 → Int32 → Option Int32
  | 0, _, _ => none
  | lf_18 + 1, u2, u3 => if 48 ≤ u3 then (some u2) else (Option.bind (rdI (cs.2.2.1 6) 48 u3) fun v_2 => if v_2 = 0 then (m_told_b39 F cs (m_told_L18 F cs lf_18) u3 0 u2) else (m_told_b39 F cs (m_told_L18 F cs lf_18) u3 1 u2))
def m_told_b162 (F : Nat) (cs : RS) (u2 : Int32) : Option Int32 := some u2
def m_told_b150 (F : Nat) (cs : RS) (rc56 : Int32 → Int32 → Option Int32) (rc74 : Int32 → Int32 → Int32 → Option Int32) (u2 : Int32) (u3 : Int32) (u4 : Int32) : Option Int32 := rc74 u2 u3 (u4 + 1)
def m_told_b142 (F : Nat) (cs : RS) (rc56 : Int32 → Int32 → Option Int32) (rc74 : Int32 → Int32 → Int32 → Option Int32) (rc96 : Int32 → Int32 → Int32 → Int32 → Int32 → Option Int32) (u3 : Int32) (u4 : Int32) (u5 : Int32) (u6 : Int32) (y0 : Int32) (y1 : Int32) : Option Int32 := rc96 (y1 + y0) u3 u4 u5 (u6 + 1)
def m_told_L96 (F : Nat) (cs : RS) (rc56 : Int32 → Int32 → Option Int32) (rc74 : Int32 → Int32 → Int32 → Option Int32) : Nat → Int32 → Int32 → Int32 → Int32 → Int32 → Option Int32
  | 0, _, _, _, _, _ => none
  | lf_96 + 1, u2, u3, u4, u5, u6 => if 8 ≤ u6 then (m_told_b150 F cs rc56 rc74 u2 u3 u4) else (Option.bind (rdI (cs.2.2.1 49) 180 u5) fun v_5 => if v_5 = (-1) then (m_told_b150 F cs rc56 rc74 u2 u3 u4) else (Option.bind (rdI (cs.2.2.1 49) 180 u5) fun v_7 => Option.bind (m_isIn F cs u5 ((8 * v_7) + u6)) fun v_8 => if v_8 = 0 then (m_told_b142 F cs rc56 rc74 (m_told_L96 F cs rc56 rc74 lf_96) u3 u4 u5 u6 0 u2) else (m_told_b142 F cs rc56 rc74 (m_told_L96 F cs rc56 rc74 lf_96) u3 u4 u5 u6 1 u2)))
def m_told_L74 (F : Nat) (cs : RS) (rc56 : Int32 → Int32 → Option Int32) : Nat → Int32 → Int32 → Int32 → Option Int32
  | 0, _, _, _ => none
  | lf_74 + 1, u2, u3, u4 => Option.bind (rdI (cs.2.2.1 37) 60 u3) fun v_10 => if v_10 ≤ u4 then (rc56 u2 (u3 + 1)) else (m_told_L96 F cs rc56 (m_told_L74 F cs rc56 lf_74) F u2 u3 u4 ((3 * u3) + u4) 0)
def m_told_L56 (F : Nat) (cs : RS) : Nat → Int32 → Int32 → Option Int32
  | 0, _, _ => none
  | lf_56 + 1, u2, u3 => if (cs.1 81) = 0 then (m_told_b162 F cs u2) else (if (cs.1 34) ≤ u3 then (m_told_b162 F cs u2) else (m_told_L74 F cs (m_told_L56 F cs lf_56) F u2 u3 0))
def m_told_b231 (F : Nat) (cs : RS) (y0 : Int32) : Option Int32 := some y0
def m_told (F : Nat) (cs : RS) (x1 : Int32) : Option Int32 := if x1 = 0 then (some (cs.1 4)) else (if x1 = 1 then (m_told_L18 F cs F 0 0) else (if x1 = 2 then (m_told_L56 F cs F 0 0) else (if x1 = 3 then (if (cs.1 81) = 0 then (m_told_b231 F cs 0) else (m_told_b231 F cs (cs.1 22))) else (if x1 = 4 then (if (cs.1 81) = 0 then (m_told_b231 F cs 0) else (m_told_b231 F cs (cs.1 69))) else (if x1 = 5 then (if (cs.1 81) = 0 then (m_told_b231 F cs 0) else (m_told_b231 F cs 1)) else (m_told_b231 F cs (-1)))))))
set_option maxHeartbeats 4000000 in
set_option maxRecDepth 100000 in
theorem s_told (l : Launch) (dC : Nat → ClassId) (dI : Nat → Nat → Nat) (cB cI cJ cZ : ClassId) (h0 : Nat) (a : Nat → Nat) (K V : Nat → Nat) (fz : Value) (F : Nat) (cs : RS) (x1 : Int32) (r9 : Int32) (hf : m_told F cs x1 = some r9) : okI l dC dI cB cI cJ cZ h0 a K V fz yX12_told (wsOf yX12_told cX12_told 7 (some .int)) (2) [.ref h0, .int x1] cs cs r9 := by
  intro sz
  refine Met.ofW (cc := cX12_told) (maxL := 7) (ret := (some .int)) (by decide) rfl ?_
  intro p e s m args below meth c s₁ B hml hv
  obtain ⟨rfl, hsz, hP, hK, hD0, hZ⟩ := hv
  have hx := B.exec
  have hb := B.bytes
  have hr := B.returns
  have hts := atoms_spec (ws := (wsOf yX12_told cX12_told 7 (some .int))) B.pre
  have hown : s.vm.findClass RX12 = some m.cls := findClass_of_methodNamed B.named
  have hlocks := B.notSynchronized
  subst hsz
  have hD := hD0.self (sz := s.heap.size)
  generalize hAe : va_A (mW cB cI cJ cZ h0 a cs) s.heap.size = A at hD hZ ⊢
  have hA : ∀ q : Nat, s.heap.size ≤ q → A q := fun q h => by rw [← hAe]; exact Or.inr h
  have hS : va_S A s.heap s.heap [] := va_S.rf
  have hl := lv_entry ([.ref h0, .int x1]) (n := 7) (Nat.le_of_ble_eq_true rfl)
  rw [lg_entry_eq]
  generalize (lg_sl ([.ref h0, .int x1]) ++ List.replicate (7 - (lg_sl ([.ref h0, .int x1])).length) Slot.unset).toArray = ls at hl ⊢
  have hl : lv_has ls 7 [(0, .ref h0), (1, .int x1)] := hl
  have L_18 : ∀ (lf_18 : Nat), ∀ (u2 : Int32) (u3 : Int32), m_told_L18 F cs lf_18 u2 u3 = some r9 → ∀ (H : Heap) (locs : List Loc) (ls : Array Slot), va_P (dC, dI) vwCl (mW cB cI cJ cZ h0 a cs) H → va_D A (mW cB cI cJ cZ h0 a cs) → va_S A s.heap H locs → lv_has ls 7 [(0, .ref h0), (2, .int u2), (3, .int u3)] → W p l e (headSpec (wsOf yX12_told cX12_told 7 (some .int)) ({ frames := 2, cells := 0, slots := 0, locals := 60 * (2) } : Room)).room s m ([.ref h0, .int x1] : List Value).toArray below meth c H locs 0 0 (MQ below (va_Qi (fun (x : Int32) (_ : Unit) => x = r9) (fun _ t_ => va_P (dC, dI) vwCl (mW cB cI cJ cZ h0 a cs) t_.heap ∧ va_D A (mW cB cI cJ cZ h0 a cs)) A) ([.ref h0, .int x1] : List Value).toArray s 0 0 A) (F0 m 18 ls []) := by
    intro lf_18
    induction lf_18 with
    | zero => intro u2 u3 h; cases (show (none : Option Int32) = _ from h)
    | succ lf_18 ih_18 =>
      have B_39 : ∀ (u3 : Int32) (y0 : Int32) (y1 : Int32), m_told_b39 F cs (m_told_L18 F cs lf_18) u3 y0 y1 = some r9 → ∀ (H : Heap) (locs : List Loc) (ls : Array Slot), va_P (dC, dI) vwCl (mW cB cI cJ cZ h0 a cs) H → va_D A (mW cB cI cJ cZ h0 a cs) → va_S A s.heap H locs → lv_has ls 7 [(0, .ref h0), (3, .int u3)] → W p l e (headSpec (wsOf yX12_told cX12_told 7 (some .int)) ({ frames := 2, cells := 0, slots := 0, locals := 60 * (2) } : Room)).room s m ([.ref h0, .int x1] : List Value).toArray below meth c H locs 0 0 (MQ below (va_Qi (fun (x : Int32) (_ : Unit) => x = r9) (fun _ t_ => va_P (dC, dI) vwCl (mW cB cI cJ cZ h0 a cs) t_.heap ∧ va_D A (mW cB cI cJ cZ h0 a cs)) A) ([.ref h0, .int x1] : List Value).toArray s 0 0 A) (F0 m 39 ls [.int y0, .int y1]) := by
        intro u3 y0 y1 h H locs ls hP hD hS hl
        unfold m_told_b39 at h
        refine lv_iadd hx hb dX12_told_39 ?_
        refine lv_istore_n (lv' := [(2, .int (y1 + y0)), (0, .ref h0), (3, .int u3)]) hx hb dX12_told_40 rfl hl (by decide) rfl (fun ls hl => ?_)
        refine lv_iinc (v := u3 + 1) (lv' := [(3, .int (u3 + 1)), (2, .int (y1 + y0)), (0, .ref h0)]) hx hb dX12_told_41 hl (k := 2) rfl rfl (by decide) rfl (fun ls hl => ?_)
        refine lv_goto (tgt := 18) hx hb dX12_told_44 (by decide) ?_
        exact ih_18 (y1 + y0) (u3 + 1) h _ _ _ hP hD hS (lv_sub hl [2, 1, 0] rfl)
      intro u2 u3 h H locs ls hP hD hS hl
      rw [m_told_L18] at h
      refine lv_iload_n hx hb dX12_told_18 rfl (lv_at hl 2 rfl) ?_
      refine lv_bipush (v := 48) hx hb dX12_told_19 (by decide) ?_
      refine lv_icmp_ge (tgt := 47) hx hb dX12_told_21 (by decide) (fun c_1 => ?_) (fun c_1 => ?_)
      · skip
        replace h := (if_pos c_1).symm.trans h
        refine lv_iload_n hx hb dX12_told_47 rfl (lv_at hl 1 rfl) ?_
        have e2 := Option.some.inj h
        exact W.iret (v := u2) hx hb hr (fun t_ ht hW => ⟨⟨u2, (), rfl, e2, by rw [ht]; exact hP, hD⟩, hS.F ht⟩) hS.2.2 dX12_told_48
      · skip
        replace h := (if_neg c_1).symm.trans h
        refine lv_iload_n hx hb dX12_told_24 rfl (lv_at hl 1 rfl) ?_
        refine lv_aload_n hx hb dX12_told_25 rfl (lv_at hl 0 rfl) ?_
        refine fg_6 hx hb hts hown hK hP dX12_told_26 ?_
        refine lv_iload_n hx hb dX12_told_29 rfl (lv_at hl 2 rfl) ?_
        obtain ⟨v_2, hv_2, h⟩ := ob h
        refine ag_6 hx hb hK hP hv_2 dX12_told_30 ?_
        refine lv_if_eq (tgt := 38) hx hb dX12_told_31 (by decide) (fun c_3 => ?_) (fun c_3 => ?_)
        · skip
          replace h := (if_pos c_3).symm.trans h
          refine lv_iconst (v := 0) hx hb dX12_told_38 (by decide) ?_
          exact B_39 u3 0 u2 h _ _ _ hP hD hS (lv_sub hl [0, 2] rfl)
        · skip
          replace h := (if_neg c_3).symm.trans h
          refine lv_iconst (v := 1) hx hb dX12_told_34 (by decide) ?_
          refine lv_goto (tgt := 39) hx hb dX12_told_35 (by decide) ?_
          exact B_39 u3 1 u2 h _ _ _ hP hD hS (lv_sub hl [0, 2] rfl)
  have B_162 : ∀ (u2 : Int32), m_told_b162 F cs u2 = some r9 → ∀ (H : Heap) (locs : List Loc) (ls : Array Slot), va_P (dC, dI) vwCl (mW cB cI cJ cZ h0 a cs) H → va_D A (mW cB cI cJ cZ h0 a cs) → va_S A s.heap H locs → lv_has ls 7 [(2, .int u2)] → W p l e (headSpec (wsOf yX12_told cX12_told 7 (some .int)) ({ frames := 2, cells := 0, slots := 0, locals := 60 * (2) } : Room)).room s m ([.ref h0, .int x1] : List Value).toArray below meth c H locs 0 0 (MQ below (va_Qi (fun (x : Int32) (_ : Unit) => x = r9) (fun _ t_ => va_P (dC, dI) vwCl (mW cB cI cJ cZ h0 a cs) t_.heap ∧ va_D A (mW cB cI cJ cZ h0 a cs)) A) ([.ref h0, .int x1] : List Value).toArray s 0 0 A) (F0 m 162 ls []) := by
    intro u2 h H locs ls hP hD hS hl
    unfold m_told_b162 at h
    refine lv_iload_n hx hb dX12_told_162 rfl (lv_at hl 0 rfl) ?_
    have e2 := Option.some.inj h
    exact W.iret (v := u2) hx hb hr (fun t_ ht hW => ⟨⟨u2, (), rfl, e2, by rw [ht]; exact hP, hD⟩, hS.F ht⟩) hS.2.2 dX12_told_163
  have L_56 : ∀ (lf_56 : Nat), ∀ (u2 : Int32) (u3 : Int32), m_told_L56 F cs lf_56 u2 u3 = some r9 → ∀ (H : Heap) (locs : List Loc) (ls : Array Slot), va_P (dC, dI) vwCl (mW cB cI cJ cZ h0 a cs) H → va_D A (mW cB cI cJ cZ h0 a cs) → va_S A s.heap H locs → lv_has ls 7 [(0, .ref h0), (2, .int u2), (3, .int u3)] → W p l e (headSpec (wsOf yX12_told cX12_told 7 (some .int)) ({ frames := 2, cells := 0, slots := 0, locals := 60 * (2) } : Room)).room s m ([.ref h0, .int x1] : List Value).toArray below meth c H locs 0 0 (MQ below (va_Qi (fun (x : Int32) (_ : Unit) => x = r9) (fun _ t_ => va_P (dC, dI) vwCl (mW cB cI cJ cZ h0 a cs) t_.heap ∧ va_D A (mW cB cI cJ cZ h0 a cs)) A) ([.ref h0, .int x1] : List Value).toArray s 0 0 A) (F0 m 56 ls []) := by
    intro lf_56
    induction lf_56 with
    | zero => intro u2 u3 h; cases (show (none : Option Int32) = _ from h)
    | succ lf_56 ih_56 =>
      have L_74 : ∀ (lf_74 : Nat), ∀ (u2 : Int32) (u3 : Int32) (u4 : Int32), m_told_L74 F cs (m_told_L56 F cs lf_56) lf_74 u2 u3 u4 = some r9 → ∀ (H : Heap) (locs : List Loc) (ls : Array Slot), va_P (dC, dI) vwCl (mW cB cI cJ cZ h0 a cs) H → va_D A (mW cB cI cJ cZ h0 a cs) → va_S A s.heap H locs → lv_has ls 7 [(0, .ref h0), (2, .int u2), (3, .int u3), (4, .int u4)] → W p l e (headSpec (wsOf yX12_told cX12_told 7 (some .int)) ({ frames := 2, cells := 0, slots := 0, locals := 60 * (2) } : Room)).room s m ([.ref h0, .int x1] : List Value).toArray below meth c H locs 0 0 (MQ below (va_Qi (fun (x : Int32) (_ : Unit) => x = r9) (fun _ t_ => va_P (dC, dI) vwCl (mW cB cI cJ cZ h0 a cs) t_.heap ∧ va_D A (mW cB cI cJ cZ h0 a cs)) A) ([.ref h0, .int x1] : List Value).toArray s 0 0 A) (F0 m 74 ls []) := by
        intro lf_74
        induction lf_74 with
        | zero => intro u2 u3 u4 h; cases (show (none : Option Int32) = _ from h)
        | succ lf_74 ih_74 =>
          have B_150 : ∀ (u2 : Int32) (u3 : Int32) (u4 : Int32), m_told_b150 F cs (m_told_L56 F cs lf_56) (m_told_L74 F cs (m_told_L56 F cs lf_56) lf_74) u2 u3 u4 = some r9 → ∀ (H : Heap) (locs : List Loc) (ls : Array Slot), va_P (dC, dI) vwCl (mW cB cI cJ cZ h0 a cs) H → va_D A (mW cB cI cJ cZ h0 a cs) → va_S A s.heap H locs → lv_has ls 7 [(0, .ref h0), (2, .int u2), (3, .int u3), (4, .int u4)] → W p l e (headSpec (wsOf yX12_told cX12_told 7 (some .int)) ({ frames := 2, cells := 0, slots := 0, locals := 60 * (2) } : Room)).room s m ([.ref h0, .int x1] : List Value).toArray below meth c H locs 0 0 (MQ below (va_Qi (fun (x : Int32) (_ : Unit) => x = r9) (fun _ t_ => va_P (dC, dI) vwCl (mW cB cI cJ cZ h0 a cs) t_.heap ∧ va_D A (mW cB cI cJ cZ h0 a cs)) A) ([.ref h0, .int x1] : List Value).toArray s 0 0 A) (F0 m 150 ls []) := by
            intro u2 u3 u4 h H locs ls hP hD hS hl
            unfold m_told_b150 at h
            refine lv_iinc (v := u4 + 1) (lv' := [(4, .int (u4 + 1)), (0, .ref h0), (2, .int u2), (3, .int u3)]) hx hb dX12_told_150 hl (k := 3) rfl rfl (by decide) rfl (fun ls hl => ?_)
            refine lv_goto (tgt := 74) hx hb dX12_told_153 (by decide) ?_
            exact ih_74 u2 u3 (u4 + 1) h _ _ _ hP hD hS (lv_sub hl [1, 2, 3, 0] rfl)
          have L_96 : ∀ (lf_96 : Nat), ∀ (u2 : Int32) (u3 : Int32) (u4 : Int32) (u5 : Int32) (u6 : Int32), m_told_L96 F cs (m_told_L56 F cs lf_56) (m_told_L74 F cs (m_told_L56 F cs lf_56) lf_74) lf_96 u2 u3 u4 u5 u6 = some r9 → ∀ (H : Heap) (locs : List Loc) (ls : Array Slot), va_P (dC, dI) vwCl (mW cB cI cJ cZ h0 a cs) H → va_D A (mW cB cI cJ cZ h0 a cs) → va_S A s.heap H locs → lv_has ls 7 [(0, .ref h0), (2, .int u2), (3, .int u3), (4, .int u4), (5, .int u5), (6, .int u6)] → W p l e (headSpec (wsOf yX12_told cX12_told 7 (some .int)) ({ frames := 2, cells := 0, slots := 0, locals := 60 * (2) } : Room)).room s m ([.ref h0, .int x1] : List Value).toArray below meth c H locs 0 0 (MQ below (va_Qi (fun (x : Int32) (_ : Unit) => x = r9) (fun _ t_ => va_P (dC, dI) vwCl (mW cB cI cJ cZ h0 a cs) t_.heap ∧ va_D A (mW cB cI cJ cZ h0 a cs)) A) ([.ref h0, .int x1] : List Value).toArray s 0 0 A) (F0 m 96 ls []) := by
            intro lf_96
            induction lf_96 with
            | zero => intro u2 u3 u4 u5 u6 h; cases (show (none : Option Int32) = _ from h)
            | succ lf_96 ih_96 =>
              have B_142 : ∀ (u3 : Int32) (u4 : Int32) (u5 : Int32) (u6 : Int32) (y0 : Int32) (y1 : Int32), m_told_b142 F cs (m_told_L56 F cs lf_56) (m_told_L74 F cs (m_told_L56 F cs lf_56) lf_74) (m_told_L96 F cs (m_told_L56 F cs lf_56) (m_told_L74 F cs (m_told_L56 F cs lf_56) lf_74) lf_96) u3 u4 u5 u6 y0 y1 = some r9 → ∀ (H : Heap) (locs : List Loc) (ls : Array Slot), va_P (dC, dI) vwCl (mW cB cI cJ cZ h0 a cs) H → va_D A (mW cB cI cJ cZ h0 a cs) → va_S A s.heap H locs → lv_has ls 7 [(0, .ref h0), (3, .int u3), (4, .int u4), (5, .int u5), (6, .int u6)] → W p l e (headSpec (wsOf yX12_told cX12_told 7 (some .int)) ({ frames := 2, cells := 0, slots := 0, locals := 60 * (2) } : Room)).room s m ([.ref h0, .int x1] : List Value).toArray below meth c H locs 0 0 (MQ below (va_Qi (fun (x : Int32) (_ : Unit) => x = r9) (fun _ t_ => va_P (dC, dI) vwCl (mW cB cI cJ cZ h0 a cs) t_.heap ∧ va_D A (mW cB cI cJ cZ h0 a cs)) A) ([.ref h0, .int x1] : List Value).toArray s 0 0 A) (F0 m 142 ls [.int y0, .int y1]) := by
                intro u3 u4 u5 u6 y0 y1 h H locs ls hP hD hS hl
                unfold m_told_b142 at h
                refine lv_iadd hx hb dX12_told_142 ?_
                refine lv_istore_n (lv' := [(2, .int (y1 + y0)), (0, .ref h0), (3, .int u3), (4, .int u4), (5, .int u5), (6, .int u6)]) hx hb dX12_told_143 rfl hl (by decide) rfl (fun ls hl => ?_)
                refine lv_iinc (v := u6 + 1) (lv' := [(6, .int (u6 + 1)), (2, .int (y1 + y0)), (0, .ref h0), (3, .int u3), (4, .int u4), (5, .int u5)]) hx hb dX12_told_144 hl (k := 5) rfl rfl (by decide) rfl (fun ls hl => ?_)
                refine lv_goto (tgt := 96) hx hb dX12_told_147 (by decide) ?_
                exact ih_96 (y1 + y0) u3 u4 u5 (u6 + 1) h _ _ _ hP hD hS (lv_sub hl [2, 1, 3, 4, 5, 0] rfl)
              intro u2 u3 u4 u5 u6 h H locs ls hP hD hS hl
              rw [m_told_L96] at h
              refine lv_iload hx hb dX12_told_96 (lv_at hl 5 rfl) ?_
              refine lv_bipush (v := 8) hx hb dX12_told_98 (by decide) ?_
              refine lv_icmp_ge (tgt := 150) hx hb dX12_told_100 (by decide) (fun c_4 => ?_) (fun c_4 => ?_)
              · skip
                replace h := (if_pos c_4).symm.trans h
                exact B_150 u2 u3 u4 h _ _ _ hP hD hS (lv_sub hl [0, 1, 2, 3] rfl)
              · skip
                replace h := (if_neg c_4).symm.trans h
                refine lv_aload_n hx hb dX12_told_103 rfl (lv_at hl 0 rfl) ?_
                refine fg_49 hx hb hts hown hK hP dX12_told_104 ?_
                refine lv_iload hx hb dX12_told_107 (lv_at hl 4 rfl) ?_
                obtain ⟨v_5, hv_5, h⟩ := ob h
                refine ag_49 hx hb hK hP hv_5 dX12_told_109 ?_
                refine lv_iconst (v := (-1)) hx hb dX12_told_110 (by decide) ?_
                refine lv_icmp_eq (tgt := 150) hx hb dX12_told_111 (by decide) (fun c_6 => ?_) (fun c_6 => ?_)
                · skip
                  replace h := (if_pos c_6).symm.trans h
                  exact B_150 u2 u3 u4 h _ _ _ hP hD hS (lv_sub hl [0, 1, 2, 3] rfl)
                · skip
                  replace h := (if_neg c_6).symm.trans h
                  refine lv_iload_n hx hb dX12_told_114 rfl (lv_at hl 1 rfl) ?_
                  refine lv_aload_n hx hb dX12_told_115 rfl (lv_at hl 0 rfl) ?_
                  refine lv_iload hx hb dX12_told_116 (lv_at hl 4 rfl) ?_
                  refine lv_bipush (v := 8) hx hb dX12_told_118 (by decide) ?_
                  refine lv_aload_n hx hb dX12_told_120 rfl (lv_at hl 0 rfl) ?_
                  refine fg_49 hx hb hts hown hK hP dX12_told_121 ?_
                  refine lv_iload hx hb dX12_told_124 (lv_at hl 4 rfl) ?_
                  obtain ⟨v_7, hv_7, h⟩ := ob h
                  refine ag_49 hx hb hK hP hv_7 dX12_told_126 ?_
                  refine lv_imul hx hb dX12_told_127 ?_
                  refine lv_iload hx hb dX12_told_128 (lv_at hl 5 rfl) ?_
                  refine lv_iadd hx hb dX12_told_130 ?_
                  obtain ⟨v_8, hv_8, h⟩ := ob h
                  refine calI (As := [.int u5, .int ((8 * v_7) + u6)]) hx hb hml hts hown hK hP hD hS hA hZ (s_isIn l dC dI cB cI cJ cZ h0 a K V fz F cs u5 ((8 * v_7) + u6) v_8 hv_8) (cw_isIn hts (fr := 1) (Nat.le_of_ble_eq_true rfl) (Nat.le_of_ble_eq_true rfl)) rfl hl.1 (Nat.le_of_ble_eq_true rfl) ⟨Nat.zero_le _, Nat.zero_le _⟩ dX12_told_131 (fun H locs hP hD hS => ?_)
                  refine lv_if_eq (tgt := 141) hx hb dX12_told_134 (by decide) (fun c_9 => ?_) (fun c_9 => ?_)
                  · skip
                    replace h := (if_pos c_9).symm.trans h
                    refine lv_iconst (v := 0) hx hb dX12_told_141 (by decide) ?_
                    exact B_142 u3 u4 u5 u6 0 u2 h _ _ _ hP hD hS (lv_sub hl [0, 2, 3, 4, 5] rfl)
                  · skip
                    replace h := (if_neg c_9).symm.trans h
                    refine lv_iconst (v := 1) hx hb dX12_told_137 (by decide) ?_
                    refine lv_goto (tgt := 142) hx hb dX12_told_138 (by decide) ?_
                    exact B_142 u3 u4 u5 u6 1 u2 h _ _ _ hP hD hS (lv_sub hl [0, 2, 3, 4, 5] rfl)
          intro u2 u3 u4 h H locs ls hP hD hS hl
          rw [m_told_L74] at h
          refine lv_iload hx hb dX12_told_74 (lv_at hl 3 rfl) ?_
          refine lv_aload_n hx hb dX12_told_76 rfl (lv_at hl 0 rfl) ?_
          refine fg_37 hx hb hts hown hK hP dX12_told_77 ?_
          refine lv_iload_n hx hb dX12_told_80 rfl (lv_at hl 2 rfl) ?_
          obtain ⟨v_10, hv_10, h⟩ := ob h
          refine ag_37 hx hb hK hP hv_10 dX12_told_81 ?_
          refine lv_icmp_ge (tgt := 156) hx hb dX12_told_82 (by decide) (fun c_11 => ?_) (fun c_11 => ?_)
          · skip
            replace h := (if_pos c_11).symm.trans h
            refine lv_iinc (v := u3 + 1) (lv' := [(3, .int (u3 + 1)), (0, .ref h0), (2, .int u2), (4, .int u4)]) hx hb dX12_told_156 hl (k := 2) rfl rfl (by decide) rfl (fun ls hl => ?_)
            refine lv_goto (tgt := 56) hx hb dX12_told_159 (by decide) ?_
            exact ih_56 u2 (u3 + 1) h _ _ _ hP hD hS (lv_sub hl [1, 2, 0] rfl)
          · skip
            replace h := (if_neg c_11).symm.trans h
            refine lv_iconst (v := 3) hx hb dX12_told_85 (by decide) ?_
            refine lv_iload_n hx hb dX12_told_86 rfl (lv_at hl 2 rfl) ?_
            refine lv_imul hx hb dX12_told_87 ?_
            refine lv_iload hx hb dX12_told_88 (lv_at hl 3 rfl) ?_
            refine lv_iadd hx hb dX12_told_90 ?_
            refine lv_istore (lv' := [(5, .int ((3 * u3) + u4)), (0, .ref h0), (2, .int u2), (3, .int u3), (4, .int u4)]) hx hb dX12_told_91 hl (by decide) rfl (fun ls hl => ?_)
            refine lv_iconst (v := 0) hx hb dX12_told_93 (by decide) ?_
            refine lv_istore (lv' := [(6, .int 0), (5, .int ((3 * u3) + u4)), (0, .ref h0), (2, .int u2), (3, .int u3), (4, .int u4)]) hx hb dX12_told_94 hl (by decide) rfl (fun ls hl => ?_)
            exact L_96 F u2 u3 u4 ((3 * u3) + u4) 0 h _ _ _ hP hD hS (lv_sub hl [2, 3, 4, 5, 1, 0] rfl)
      intro u2 u3 h H locs ls hP hD hS hl
      rw [m_told_L56] at h
      refine lv_aload_n hx hb dX12_told_56 rfl (lv_at hl 0 rfl) ?_
      refine fg_81 hx hb hts hown hK hP dX12_told_57 ?_
      refine lv_if_eq (tgt := 162) hx hb dX12_told_60 (by decide) (fun c_12 => ?_) (fun c_12 => ?_)
      · skip
        replace h := (if_pos c_12).symm.trans h
        exact B_162 u2 h _ _ _ hP hD hS (lv_sub hl [1] rfl)
      · skip
        replace h := (if_neg c_12).symm.trans h
        refine lv_iload_n hx hb dX12_told_63 rfl (lv_at hl 2 rfl) ?_
        refine lv_aload_n hx hb dX12_told_64 rfl (lv_at hl 0 rfl) ?_
        refine fg_34 hx hb hts hown hK hP dX12_told_65 ?_
        refine lv_icmp_ge (tgt := 162) hx hb dX12_told_68 (by decide) (fun c_13 => ?_) (fun c_13 => ?_)
        · skip
          replace h := (if_pos c_13).symm.trans h
          exact B_162 u2 h _ _ _ hP hD hS (lv_sub hl [1] rfl)
        · skip
          replace h := (if_neg c_13).symm.trans h
          refine lv_iconst (v := 0) hx hb dX12_told_71 (by decide) ?_
          refine lv_istore (lv' := [(4, .int 0), (0, .ref h0), (2, .int u2), (3, .int u3)]) hx hb dX12_told_72 hl (by decide) rfl (fun ls hl => ?_)
          exact L_74 F u2 u3 0 h _ _ _ hP hD hS (lv_sub hl [1, 2, 3, 0] rfl)
  have B_231 : ∀ (y0 : Int32), m_told_b231 F cs y0 = some r9 → ∀ (H : Heap) (locs : List Loc) (ls : Array Slot), va_P (dC, dI) vwCl (mW cB cI cJ cZ h0 a cs) H → va_D A (mW cB cI cJ cZ h0 a cs) → va_S A s.heap H locs → lv_has ls 7 [] → W p l e (headSpec (wsOf yX12_told cX12_told 7 (some .int)) ({ frames := 2, cells := 0, slots := 0, locals := 60 * (2) } : Room)).room s m ([.ref h0, .int x1] : List Value).toArray below meth c H locs 0 0 (MQ below (va_Qi (fun (x : Int32) (_ : Unit) => x = r9) (fun _ t_ => va_P (dC, dI) vwCl (mW cB cI cJ cZ h0 a cs) t_.heap ∧ va_D A (mW cB cI cJ cZ h0 a cs)) A) ([.ref h0, .int x1] : List Value).toArray s 0 0 A) (F0 m 231 ls [.int y0]) := by
    intro y0 h H locs ls hP hD hS hl
    unfold m_told_b231 at h
    have e2 := Option.some.inj h
    exact W.iret (v := y0) hx hb hr (fun t_ ht hW => ⟨⟨y0, (), rfl, e2, by rw [ht]; exact hP, hD⟩, hS.F ht⟩) hS.2.2 dX12_told_231
  have h := hf
  unfold m_told at h
  refine lv_iload_n hx hb dX12_told_0 rfl (lv_at hl 1 rfl) ?_
  refine lv_if_ne (tgt := 9) hx hb dX12_told_1 (by decide) (fun c_14 => ?_) (fun c_14 => ?_)
  · skip
    replace h := (if_neg c_14).symm.trans h
    refine lv_iconst (v := 0) hx hb dX12_told_9 (by decide) ?_
    refine lv_istore_n (lv' := [(2, .int 0), (0, .ref h0), (1, .int x1)]) hx hb dX12_told_10 rfl hl (by decide) rfl (fun ls hl => ?_)
    refine lv_iload_n hx hb dX12_told_11 rfl (lv_at hl 2 rfl) ?_
    refine lv_iconst (v := 1) hx hb dX12_told_12 (by decide) ?_
    refine lv_icmp_ne (tgt := 49) hx hb dX12_told_13 (by decide) (fun c_15 => ?_) (fun c_15 => ?_)
    · skip
      replace h := (if_neg c_15).symm.trans h
      refine lv_iload_n hx hb dX12_told_49 rfl (lv_at hl 2 rfl) ?_
      refine lv_iconst (v := 2) hx hb dX12_told_50 (by decide) ?_
      refine lv_icmp_ne (tgt := 164) hx hb dX12_told_51 (by decide) (fun c_16 => ?_) (fun c_16 => ?_)
      · skip
        replace h := (if_neg c_16).symm.trans h
        refine lv_iload_n hx hb dX12_told_164 rfl (lv_at hl 2 rfl) ?_
        refine lv_iconst (v := 3) hx hb dX12_told_165 (by decide) ?_
        refine lv_icmp_ne (tgt := 187) hx hb dX12_told_166 (by decide) (fun c_17 => ?_) (fun c_17 => ?_)
        · skip
          replace h := (if_neg c_17).symm.trans h
          refine lv_iload_n hx hb dX12_told_187 rfl (lv_at hl 2 rfl) ?_
          refine lv_iconst (v := 4) hx hb dX12_told_188 (by decide) ?_
          refine lv_icmp_ne (tgt := 210) hx hb dX12_told_189 (by decide) (fun c_18 => ?_) (fun c_18 => ?_)
          · skip
            replace h := (if_neg c_18).symm.trans h
            refine lv_iload_n hx hb dX12_told_210 rfl (lv_at hl 2 rfl) ?_
            refine lv_iconst (v := 5) hx hb dX12_told_211 (by decide) ?_
            refine lv_icmp_ne (tgt := 230) hx hb dX12_told_212 (by decide) (fun c_19 => ?_) (fun c_19 => ?_)
            · skip
              replace h := (if_neg c_19).symm.trans h
              refine lv_iconst (v := (-1)) hx hb dX12_told_230 (by decide) ?_
              exact B_231 (-1) h _ _ _ hP hD hS (lv_sub hl [] rfl)
            · skip
              replace h := (if_pos c_19).symm.trans h
              refine lv_aload_n hx hb dX12_told_215 rfl (lv_at hl 1 rfl) ?_
              refine fg_81 hx hb hts hown hK hP dX12_told_216 ?_
              refine lv_if_eq (tgt := 226) hx hb dX12_told_219 (by decide) (fun c_20 => ?_) (fun c_20 => ?_)
              · skip
                replace h := (if_pos c_20).symm.trans h
                refine lv_iconst (v := 0) hx hb dX12_told_226 (by decide) ?_
                refine lv_goto (tgt := 231) hx hb dX12_told_227 (by decide) ?_
                exact B_231 0 h _ _ _ hP hD hS (lv_sub hl [] rfl)
              · skip
                replace h := (if_neg c_20).symm.trans h
                refine lv_iconst (v := 1) hx hb dX12_told_222 (by decide) ?_
                refine lv_goto (tgt := 231) hx hb dX12_told_223 (by decide) ?_
                exact B_231 1 h _ _ _ hP hD hS (lv_sub hl [] rfl)
          · skip
            replace h := (if_pos c_18).symm.trans h
            refine lv_aload_n hx hb dX12_told_192 rfl (lv_at hl 1 rfl) ?_
            refine fg_81 hx hb hts hown hK hP dX12_told_193 ?_
            refine lv_if_eq (tgt := 206) hx hb dX12_told_196 (by decide) (fun c_21 => ?_) (fun c_21 => ?_)
            · skip
              replace h := (if_pos c_21).symm.trans h
              refine lv_iconst (v := 0) hx hb dX12_told_206 (by decide) ?_
              refine lv_goto (tgt := 231) hx hb dX12_told_207 (by decide) ?_
              exact B_231 0 h _ _ _ hP hD hS (lv_sub hl [] rfl)
            · skip
              replace h := (if_neg c_21).symm.trans h
              refine lv_aload_n hx hb dX12_told_199 rfl (lv_at hl 1 rfl) ?_
              refine fg_69 hx hb hts hown hK hP dX12_told_200 ?_
              refine lv_goto (tgt := 231) hx hb dX12_told_203 (by decide) ?_
              exact B_231 (cs.1 69) h _ _ _ hP hD hS (lv_sub hl [] rfl)
        · skip
          replace h := (if_pos c_17).symm.trans h
          refine lv_aload_n hx hb dX12_told_169 rfl (lv_at hl 1 rfl) ?_
          refine fg_81 hx hb hts hown hK hP dX12_told_170 ?_
          refine lv_if_eq (tgt := 183) hx hb dX12_told_173 (by decide) (fun c_22 => ?_) (fun c_22 => ?_)
          · skip
            replace h := (if_pos c_22).symm.trans h
            refine lv_iconst (v := 0) hx hb dX12_told_183 (by decide) ?_
            refine lv_goto (tgt := 231) hx hb dX12_told_184 (by decide) ?_
            exact B_231 0 h _ _ _ hP hD hS (lv_sub hl [] rfl)
          · skip
            replace h := (if_neg c_22).symm.trans h
            refine lv_aload_n hx hb dX12_told_176 rfl (lv_at hl 1 rfl) ?_
            refine fg_22 hx hb hts hown hK hP dX12_told_177 ?_
            refine lv_goto (tgt := 231) hx hb dX12_told_180 (by decide) ?_
            exact B_231 (cs.1 22) h _ _ _ hP hD hS (lv_sub hl [] rfl)
      · skip
        replace h := (if_pos c_16).symm.trans h
        refine lv_iconst (v := 0) hx hb dX12_told_54 (by decide) ?_
        refine lv_istore_n (lv' := [(3, .int 0), (2, .int 0), (0, .ref h0), (1, .int x1)]) hx hb dX12_told_55 rfl hl (by decide) rfl (fun ls hl => ?_)
        exact L_56 F 0 0 h _ _ _ hP hD hS (lv_sub hl [2, 1, 0] rfl)
    · skip
      replace h := (if_pos c_15).symm.trans h
      refine lv_iconst (v := 0) hx hb dX12_told_16 (by decide) ?_
      refine lv_istore_n (lv' := [(3, .int 0), (2, .int 0), (0, .ref h0), (1, .int x1)]) hx hb dX12_told_17 rfl hl (by decide) rfl (fun ls hl => ?_)
      exact L_18 F 0 0 h _ _ _ hP hD hS (lv_sub hl [2, 1, 0] rfl)
  · skip
    replace h := (if_pos c_14).symm.trans h
    refine lv_aload_n hx hb dX12_told_4 rfl (lv_at hl 0 rfl) ?_
    refine fg_4 hx hb hts hown hK hP dX12_told_5 ?_
    have e2 := Option.some.inj h
    exact W.iret (v := cs.1 4) hx hb hr (fun t_ ht hW => ⟨⟨cs.1 4, (), rfl, e2, by rw [ht]; exact hP, hD⟩, hS.F ht⟩) hS.2.2 dX12_told_8
