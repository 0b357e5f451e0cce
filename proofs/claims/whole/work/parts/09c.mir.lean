/-! the reference, mirrored: isText, isWord, takeWord, needWord, isSign, takeSign, needSign, isTaken, isName, name, isSame, deeper, begins, make, columnOf -/
theorem dX12_isText_0 : decode cX12_isText 0 = .ok (.aload_n 0, 1) := by decide +kernel
theorem dX12_isText_1 : decode cX12_isText 1 = .ok (.getfield 46, 3) := by decide +kernel
theorem dX12_isText_4 : decode cX12_isText 4 = .ok (.iload_n 1, 1) := by decide +kernel
theorem dX12_isText_5 : decode cX12_isText 5 = .ok (.iaload, 1) := by decide +kernel
theorem dX12_isText_6 : decode cX12_isText 6 = .ok (.aload_n 2, 1) := by decide +kernel
theorem dX12_isText_7 : decode cX12_isText 7 = .ok (.invokevirtual 309, 3) := by decide +kernel
theorem dX12_isText_10 : decode cX12_isText 10 = .ok (.if_icmp .eq 5, 3) := by decide +kernel
theorem dX12_isText_13 : decode cX12_isText 13 = .ok (.iconst 0, 1) := by decide +kernel
theorem dX12_isText_14 : decode cX12_isText 14 = .ok (.ireturn, 1) := by decide +kernel
theorem dX12_isText_15 : decode cX12_isText 15 = .ok (.iconst 0, 1) := by decide +kernel
theorem dX12_isText_16 : decode cX12_isText 16 = .ok (.istore_n 3, 1) := by decide +kernel
theorem dX12_isText_17 : decode cX12_isText 17 = .ok (.iload_n 3, 1) := by decide +kernel
theorem dX12_isText_18 : decode cX12_isText 18 = .ok (.aload_n 0, 1) := by decide +kernel
theorem dX12_isText_19 : decode cX12_isText 19 = .ok (.getfield 46, 3) := by decide +kernel
theorem dX12_isText_22 : decode cX12_isText 22 = .ok (.iload_n 1, 1) := by decide +kernel
theorem dX12_isText_23 : decode cX12_isText 23 = .ok (.iaload, 1) := by decide +kernel
theorem dX12_isText_24 : decode cX12_isText 24 = .ok (.if_icmp .ge 32, 3) := by decide +kernel
theorem dX12_isText_27 : decode cX12_isText 27 = .ok (.aload_n 0, 1) := by decide +kernel
theorem dX12_isText_28 : decode cX12_isText 28 = .ok (.getfield 13, 3) := by decide +kernel
theorem dX12_isText_31 : decode cX12_isText 31 = .ok (.aload_n 0, 1) := by decide +kernel
theorem dX12_isText_32 : decode cX12_isText 32 = .ok (.getfield 43, 3) := by decide +kernel
theorem dX12_isText_35 : decode cX12_isText 35 = .ok (.iload_n 1, 1) := by decide +kernel
theorem dX12_isText_36 : decode cX12_isText 36 = .ok (.iaload, 1) := by decide +kernel
theorem dX12_isText_37 : decode cX12_isText 37 = .ok (.iload_n 3, 1) := by decide +kernel
theorem dX12_isText_38 : decode cX12_isText 38 = .ok (.iadd, 1) := by decide +kernel
theorem dX12_isText_39 : decode cX12_isText 39 = .ok (.baload, 1) := by decide +kernel
theorem dX12_isText_40 : decode cX12_isText 40 = .ok (.aload_n 2, 1) := by decide +kernel
theorem dX12_isText_41 : decode cX12_isText 41 = .ok (.iload_n 3, 1) := by decide +kernel
theorem dX12_isText_42 : decode cX12_isText 42 = .ok (.invokevirtual 314, 3) := by decide +kernel
theorem dX12_isText_45 : decode cX12_isText 45 = .ok (.if_icmp .eq 5, 3) := by decide +kernel
theorem dX12_isText_48 : decode cX12_isText 48 = .ok (.iconst 0, 1) := by decide +kernel
theorem dX12_isText_49 : decode cX12_isText 49 = .ok (.ireturn, 1) := by decide +kernel
theorem dX12_isText_50 : decode cX12_isText 50 = .ok (.iinc 3 1, 3) := by decide +kernel
theorem dX12_isText_53 : decode cX12_isText 53 = .ok (.goto (-36), 3) := by decide +kernel
theorem dX12_isText_56 : decode cX12_isText 56 = .ok (.iconst 1, 1) := by decide +kernel
theorem dX12_isText_57 : decode cX12_isText 57 = .ok (.ireturn, 1) := by decide +kernel
def m_isText_L17 (F : Nat) (cs : RS) (x2 : Nat) : Nat → Int32 → Int32 → Option Int32
  | 0, _, _ => none
  | lf_17 + 1, u1, u3 => Option.bind (rdI (cs.2.2.1 16) 2001 u1) fun v_1 => if v_1 ≤ u3 then (some 1) else (Option.bind (rdI (cs.2.2.1 15) 2001 u1) fun v_3 => Option.bind (rdI (cs.2.2.1 2) 2000 (v_3 + u3)) fun v_4 => Option.bind (chA x2 u3) fun v_5 => if v_4 = v_5 then ((m_isText_L17 F cs x2 lf_17) u1 (u3 + 1)) else (some 0))
def m_isText (F : Nat) (cs : RS) (x1 : Int32) (x2 : Nat) : Option Int32 := Option.bind (rdI (cs.2.2.1 16) 2001 x1) fun v_7 => if v_7 = (nI (soB x2).length) then (m_isText_L17 F cs x2 F x1 0) else (some 0)
set_option maxHeartbeats 4000000 in
set_option maxRecDepth 100000 in
theorem s_isText (l : Launch) (dC : Nat → ClassId) (dI : Nat → Nat → Nat) (cB cI cJ cZ : ClassId) (h0 : Nat) (a : Nat → Nat) (K V : Nat → Nat) (fz : Value) (F : Nat) (cs : RS) (x1 : Int32) (x2 : Nat) (hi : x2 < 42) (r9 : Int32) (hf : m_isText F cs x1 x2 = some r9) : okI l dC dI cB cI cJ cZ h0 a K V fz yX12_isText (wsOf yX12_isText cX12_isText 4 (some .boolean)) (6) [.ref h0, .int x1, .ref (K x2)] cs cs r9 := by
  intro sz
  refine Met.ofW (cc := cX12_isText) (maxL := 4) (ret := (some .boolean)) (by decide) rfl ?_
  intro p e s m args below meth c s₁ B hml hv
  obtain ⟨rfl, hsz, hP, hK, hD0, hZ⟩ := hv
  have hx := B.exec
  have hb := B.bytes
  have hr := B.returns
  have hts := atoms_spec (ws := (wsOf yX12_isText cX12_isText 4 (some .boolean))) B.pre
  have hown : s.vm.findClass RX12 = some m.cls := findClass_of_methodNamed B.named
  have hlocks := B.notSynchronized
  subst hsz
  have hD := hD0.self (sz := s.heap.size)
  generalize hAe : va_A (mW cB cI cJ cZ h0 a cs) s.heap.size = A at hD hZ ⊢
  have hA : ∀ q : Nat, s.heap.size ≤ q → A q := fun q h => by rw [← hAe]; exact Or.inr h
  have hS : va_S A s.heap s.heap [] := va_S.rf
  have hl := lv_entry ([.ref h0, .int x1, .ref (K x2)]) (n := 4) (Nat.le_of_ble_eq_true rfl)
  rw [lg_entry_eq]
  generalize (lg_sl ([.ref h0, .int x1, .ref (K x2)]) ++ List.replicate (4 - (lg_sl ([.ref h0, .int x1, .ref (K x2)])).length) Slot.unset).toArray = ls at hl ⊢
  have hl : lv_has ls 4 [(0, .ref h0), (1, .int x1), (2, .ref (K x2))] := hl
  have L_17 : ∀ (lf_17 : Nat), ∀ (u1 : Int32) (u3 : Int32), m_isText_L17 F cs x2 lf_17 u1 u3 = some r9 → ∀ (H : Heap) (locs : List Loc) (ls : Array Slot), va_P (dC, dI) vwCl (mW cB cI cJ cZ h0 a cs) H → va_D A (mW cB cI cJ cZ h0 a cs) → va_S A s.heap H locs → lv_has ls 4 [(0, .ref h0), (1, .int u1), (2, .ref (K x2)), (3, .int u3)] → W p l e (headSpec (wsOf yX12_isText cX12_isText 4 (some .boolean)) ({ frames := 6, cells := 0, slots := 0, locals := 60 * (6) } : Room)).room s m ([.ref h0, .int x1, .ref (K x2)] : List Value).toArray below meth c H locs 0 0 (MQ below (va_Qi (fun (x : Int32) (_ : Unit) => x = r9) (fun _ t_ => va_P (dC, dI) vwCl (mW cB cI cJ cZ h0 a cs) t_.heap ∧ va_D A (mW cB cI cJ cZ h0 a cs)) A) ([.ref h0, .int x1, .ref (K x2)] : List Value).toArray s 0 0 A) (F0 m 17 ls []) := by
    intro lf_17
    induction lf_17 with
    | zero => intro u1 u3 h; cases (show (none : Option Int32) = _ from h)
    | succ lf_17 ih_17 =>
      intro u1 u3 h H locs ls hP hD hS hl
      rw [m_isText_L17] at h
      refine lv_iload_n hx hb dX12_isText_17 rfl (lv_at hl 3 rfl) ?_
      refine lv_aload_n hx hb dX12_isText_18 rfl (lv_at hl 0 rfl) ?_
      refine fg_16 hx hb hts hown hK hP dX12_isText_19 ?_
      refine lv_iload_n hx hb dX12_isText_22 rfl (lv_at hl 1 rfl) ?_
      obtain ⟨v_1, hv_1, h⟩ := ob h
      refine ag_16 hx hb hK hP hv_1 dX12_isText_23 ?_
      refine lv_icmp_ge (tgt := 56) hx hb dX12_isText_24 (by decide) (fun c_2 => ?_) (fun c_2 => ?_)
      · skip
        replace h := (if_pos c_2).symm.trans h
        refine lv_iconst (v := 1) hx hb dX12_isText_56 (by decide) ?_
        have e2 := Option.some.inj h
        exact W.zret (v := 1) hx hb hr (nzN (Or.inr rfl)) (fun t_ ht hW => ⟨⟨1, (), rfl, e2, by rw [ht]; exact hP, hD⟩, hS.F ht⟩) hS.2.2 dX12_isText_57
      · skip
        replace h := (if_neg c_2).symm.trans h
        refine lv_aload_n hx hb dX12_isText_27 rfl (lv_at hl 0 rfl) ?_
        refine fg_2 hx hb hts hown hK hP dX12_isText_28 ?_
        refine lv_aload_n hx hb dX12_isText_31 rfl (lv_at hl 0 rfl) ?_
        refine fg_15 hx hb hts hown hK hP dX12_isText_32 ?_
        refine lv_iload_n hx hb dX12_isText_35 rfl (lv_at hl 1 rfl) ?_
        obtain ⟨v_3, hv_3, h⟩ := ob h
        refine ag_15 hx hb hK hP hv_3 dX12_isText_36 ?_
        refine lv_iload_n hx hb dX12_isText_37 rfl (lv_at hl 3 rfl) ?_
        refine lv_iadd hx hb dX12_isText_38 ?_
        obtain ⟨v_4, hv_4, h⟩ := ob h
        refine ag_2 hx hb hK hP hv_4 dX12_isText_39 ?_
        refine lv_aload_n hx hb dX12_isText_40 rfl (lv_at hl 2 rfl) ?_
        refine lv_iload_n hx hb dX12_isText_41 rfl (lv_at hl 3 rfl) ?_
        obtain ⟨v_5, hv_5, h⟩ := ob h
        refine strChar hx hb hml hts hown hK hP hD hS hA hZ hi (Nat.zero_le _) (Nat.zero_le _) hv_5 hl.1 (Nat.le_of_ble_eq_true rfl) (Nat.le_of_ble_eq_true rfl) (Nat.le_of_ble_eq_true rfl) dX12_isText_42 (fun H locs hP hD hS => ?_)
        refine lv_icmp_eq (tgt := 50) hx hb dX12_isText_45 (by decide) (fun c_6 => ?_) (fun c_6 => ?_)
        · skip
          replace h := (if_pos c_6).symm.trans h
          refine lv_iinc (v := u3 + 1) (lv' := [(3, .int (u3 + 1)), (0, .ref h0), (1, .int u1), (2, .ref (K x2))]) hx hb dX12_isText_50 hl (k := 3) rfl rfl (by decide) rfl (fun ls hl => ?_)
          refine lv_goto (tgt := 17) hx hb dX12_isText_53 (by decide) ?_
          exact ih_17 u1 (u3 + 1) h _ _ _ hP hD hS (lv_sub hl [1, 2, 3, 0] rfl)
        · skip
          replace h := (if_neg c_6).symm.trans h
          refine lv_iconst (v := 0) hx hb dX12_isText_48 (by decide) ?_
          have e2 := Option.some.inj h
          exact W.zret (v := 0) hx hb hr (nzN (Or.inl rfl)) (fun t_ ht hW => ⟨⟨0, (), rfl, e2, by rw [ht]; exact hP, hD⟩, hS.F ht⟩) hS.2.2 dX12_isText_49
  have h := hf
  unfold m_isText at h
  refine lv_aload_n hx hb dX12_isText_0 rfl (lv_at hl 0 rfl) ?_
  refine fg_16 hx hb hts hown hK hP dX12_isText_1 ?_
  refine lv_iload_n hx hb dX12_isText_4 rfl (lv_at hl 1 rfl) ?_
  obtain ⟨v_7, hv_7, h⟩ := ob h
  refine ag_16 hx hb hK hP hv_7 dX12_isText_5 ?_
  refine lv_aload_n hx hb dX12_isText_6 rfl (lv_at hl 2 rfl) ?_
  refine strLen hx hb hml hts hown hK hP hD hS hA hZ hi (Nat.zero_le _) (Nat.zero_le _) hl.1 (Nat.le_of_ble_eq_true rfl) (Nat.le_of_ble_eq_true rfl) (Nat.le_of_ble_eq_true rfl) dX12_isText_7 (fun H locs hP hD hS => ?_)
  refine lv_icmp_eq (tgt := 15) hx hb dX12_isText_10 (by decide) (fun c_9 => ?_) (fun c_9 => ?_)
  · skip
    replace h := (if_pos c_9).symm.trans h
    refine lv_iconst (v := 0) hx hb dX12_isText_15 (by decide) ?_
    refine lv_istore_n (lv' := [(3, .int 0), (0, .ref h0), (1, .int x1), (2, .ref (K x2))]) hx hb dX12_isText_16 rfl hl (by decide) rfl (fun ls hl => ?_)
    exact L_17 F x1 0 h _ _ _ hP hD hS (lv_sub hl [1, 2, 3, 0] rfl)
  · skip
    replace h := (if_neg c_9).symm.trans h
    refine lv_iconst (v := 0) hx hb dX12_isText_13 (by decide) ?_
    have e2 := Option.some.inj h
    exact W.zret (v := 0) hx hb hr (nzN (Or.inl rfl)) (fun t_ ht hW => ⟨⟨0, (), rfl, e2, by rw [ht]; exact hP, hD⟩, hS.F ht⟩) hS.2.2 dX12_isText_14
theorem cw_isText {R : Room} {s : State} {args : Array Value} {y0 : MethodName} {c0 : ByteArray} {n0 : Nat} {r0 : Option FieldType} (hts : ∀ w ∈ wsOf y0 c0 n0 r0, w.before args s = true) {fr : Nat} (h1 : fr + 1 ≤ R.frames) (h2 : 8 + (4 + 11) + 60 * fr ≤ R.locals) : CallW R s args RX12 RX12 318 yX12_isText cX12_isText 4 (some .boolean) (wsOf yX12_isText cX12_isText 4 (some .boolean)) ({ frames := fr, cells := 0, slots := 0, locals := 60 * fr } : Room) 0 0 2 := cwV 2 hts (gd_all (in_V kw_2249 kw_2251 kw_136 kw_191 kc_X12_isText)) rfl rfl rfl (by decide +kernel) ⟨h1, h2⟩
theorem dX12_isWord_0 : decode cX12_isWord 0 = .ok (.aload_n 0, 1) := by decide +kernel
theorem dX12_isWord_1 : decode cX12_isWord 1 = .ok (.getfield 292, 3) := by decide +kernel
theorem dX12_isWord_4 : decode cX12_isWord 4 = .ok (.ifCond .eq 32, 3) := by decide +kernel
theorem dX12_isWord_7 : decode cX12_isWord 7 = .ok (.aload_n 0, 1) := by decide +kernel
theorem dX12_isWord_8 : decode cX12_isWord 8 = .ok (.getfield 40, 3) := by decide +kernel
theorem dX12_isWord_11 : decode cX12_isWord 11 = .ok (.aload_n 0, 1) := by decide +kernel
theorem dX12_isWord_12 : decode cX12_isWord 12 = .ok (.getfield 302, 3) := by decide +kernel
theorem dX12_isWord_15 : decode cX12_isWord 15 = .ok (.iaload, 1) := by decide +kernel
theorem dX12_isWord_16 : decode cX12_isWord 16 = .ok (.iconst 1, 1) := by decide +kernel
theorem dX12_isWord_17 : decode cX12_isWord 17 = .ok (.if_icmp .ne 19, 3) := by decide +kernel
theorem dX12_isWord_20 : decode cX12_isWord 20 = .ok (.aload_n 0, 1) := by decide +kernel
theorem dX12_isWord_21 : decode cX12_isWord 21 = .ok (.aload_n 0, 1) := by decide +kernel
theorem dX12_isWord_22 : decode cX12_isWord 22 = .ok (.getfield 302, 3) := by decide +kernel
theorem dX12_isWord_25 : decode cX12_isWord 25 = .ok (.aload_n 1, 1) := by decide +kernel
theorem dX12_isWord_26 : decode cX12_isWord 26 = .ok (.invokevirtual 318, 3) := by decide +kernel
theorem dX12_isWord_29 : decode cX12_isWord 29 = .ok (.ifCond .eq 7, 3) := by decide +kernel
theorem dX12_isWord_32 : decode cX12_isWord 32 = .ok (.iconst 1, 1) := by decide +kernel
theorem dX12_isWord_33 : decode cX12_isWord 33 = .ok (.goto 4, 3) := by decide +kernel
theorem dX12_isWord_36 : decode cX12_isWord 36 = .ok (.iconst 0, 1) := by decide +kernel
theorem dX12_isWord_37 : decode cX12_isWord 37 = .ok (.ireturn, 1) := by decide +kernel
def m_isWord_b37 (F : Nat) (cs : RS) (x1 : Nat) (y0 : Int32) : Option Int32 := Option.bind (ckZ y0) fun _ => some y0
def m_isWord_b36 (F : Nat) (cs : RS) (x1 : Nat) : Option Int32 := m_isWord_b37 F cs x1 0
def m_isWord (F : Nat) (cs : RS) (x1 : Nat) : Option Int32 := if (cs.1 21) = 0 then (m_isWord_b36 F cs x1 ) else (Option.bind (rdI (cs.2.2.1 14) 2001 (cs.1 18)) fun v_3 => if v_3 = 1 then (Option.bind (m_isText F cs (cs.1 18) x1) fun v_5 => if v_5 = 0 then (m_isWord_b36 F cs x1 ) else (m_isWord_b37 F cs x1 1)) else (m_isWord_b36 F cs x1 ))
set_option maxHeartbeats 4000000 in
set_option maxRecDepth 100000 in
theorem s_isWord (l : Launch) (dC : Nat → ClassId) (dI : Nat → Nat → Nat) (cB cI cJ cZ : ClassId) (h0 : Nat) (a : Nat → Nat) (K V : Nat → Nat) (fz : Value) (F : Nat) (cs : RS) (x1 : Nat) (hi : x1 < 42) (r9 : Int32) (hf : m_isWord F cs x1 = some r9) : okI l dC dI cB cI cJ cZ h0 a K V fz yX12_isWord (wsOf yX12_isWord cX12_isWord 2 (some .boolean)) (7) [.ref h0, .ref (K x1)] cs cs r9 := by
  intro sz
  refine Met.ofW (cc := cX12_isWord) (maxL := 2) (ret := (some .boolean)) (by decide) rfl ?_
  intro p e s m args below meth c s₁ B hml hv
  obtain ⟨rfl, hsz, hP, hK, hD0, hZ⟩ := hv
  have hx := B.exec
  have hb := B.bytes
  have hr := B.returns
  have hts := atoms_spec (ws := (wsOf yX12_isWord cX12_isWord 2 (some .boolean))) B.pre
  have hown : s.vm.findClass RX12 = some m.cls := findClass_of_methodNamed B.named
  have hlocks := B.notSynchronized
  subst hsz
  have hD := hD0.self (sz := s.heap.size)
  generalize hAe : va_A (mW cB cI cJ cZ h0 a cs) s.heap.size = A at hD hZ ⊢
  have hA : ∀ q : Nat, s.heap.size ≤ q → A q := fun q h => by rw [← hAe]; exact Or.inr h
  have hS : va_S A s.heap s.heap [] := va_S.rf
  have hl := lv_entry ([.ref h0, .ref (K x1)]) (n := 2) (Nat.le_of_ble_eq_true rfl)
  rw [lg_entry_eq]
  generalize (lg_sl ([.ref h0, .ref (K x1)]) ++ List.replicate (2 - (lg_sl ([.ref h0, .ref (K x1)])).length) Slot.unset).toArray = ls at hl ⊢
  have hl : lv_has ls 2 [(0, .ref h0), (1, .ref (K x1))] := hl
  have B_37 : ∀ (y0 : Int32), m_isWord_b37 F cs x1 y0 = some r9 → ∀ (H : Heap) (locs : List Loc) (ls : Array Slot), va_P (dC, dI) vwCl (mW cB cI cJ cZ h0 a cs) H → va_D A (mW cB cI cJ cZ h0 a cs) → va_S A s.heap H locs → lv_has ls 2 [] → W p l e (headSpec (wsOf yX12_isWord cX12_isWord 2 (some .boolean)) ({ frames := 7, cells := 0, slots := 0, locals := 60 * (7) } : Room)).room s m ([.ref h0, .ref (K x1)] : List Value).toArray below meth c H locs 0 0 (MQ below (va_Qi (fun (x : Int32) (_ : Unit) => x = r9) (fun _ t_ => va_P (dC, dI) vwCl (mW cB cI cJ cZ h0 a cs) t_.heap ∧ va_D A (mW cB cI cJ cZ h0 a cs)) A) ([.ref h0, .ref (K x1)] : List Value).toArray s 0 0 A) (F0 m 37 ls [.int y0]) := by
    intro y0 h H locs ls hP hD hS hl
    unfold m_isWord_b37 at h
    obtain ⟨w_1, hw_1, h⟩ := ob h
    have e2 := Option.some.inj h
    exact W.zret (v := y0) hx hb hr (nzN (ckZ_some hw_1)) (fun t_ ht hW => ⟨⟨y0, (), rfl, e2, by rw [ht]; exact hP, hD⟩, hS.F ht⟩) hS.2.2 dX12_isWord_37
  have B_36 : m_isWord_b36 F cs x1 = some r9 → ∀ (H : Heap) (locs : List Loc) (ls : Array Slot), va_P (dC, dI) vwCl (mW cB cI cJ cZ h0 a cs) H → va_D A (mW cB cI cJ cZ h0 a cs) → va_S A s.heap H locs → lv_has ls 2 [] → W p l e (headSpec (wsOf yX12_isWord cX12_isWord 2 (some .boolean)) ({ frames := 7, cells := 0, slots := 0, locals := 60 * (7) } : Room)).room s m ([.ref h0, .ref (K x1)] : List Value).toArray below meth c H locs 0 0 (MQ below (va_Qi (fun (x : Int32) (_ : Unit) => x = r9) (fun _ t_ => va_P (dC, dI) vwCl (mW cB cI cJ cZ h0 a cs) t_.heap ∧ va_D A (mW cB cI cJ cZ h0 a cs)) A) ([.ref h0, .ref (K x1)] : List Value).toArray s 0 0 A) (F0 m 36 ls []) := by
    intro  h H locs ls hP hD hS hl
    unfold m_isWord_b36 at h
    refine lv_iconst (v := 0) hx hb dX12_isWord_36 (by decide) ?_
    exact B_37 0 h _ _ _ hP hD hS (lv_sub hl [] rfl)
  have h := hf
  unfold m_isWord at h
  refine lv_aload_n hx hb dX12_isWord_0 rfl (lv_at hl 0 rfl) ?_
  refine fg_21 hx hb hts hown hK hP dX12_isWord_1 ?_
  refine lv_if_eq (tgt := 36) hx hb dX12_isWord_4 (by decide) (fun c_2 => ?_) (fun c_2 => ?_)
  · skip
    replace h := (if_pos c_2).symm.trans h
    exact B_36  h _ _ _ hP hD hS (lv_sub hl [] rfl)
  · skip
    replace h := (if_neg c_2).symm.trans h
    refine lv_aload_n hx hb dX12_isWord_7 rfl (lv_at hl 0 rfl) ?_
    refine fg_14 hx hb hts hown hK hP dX12_isWord_8 ?_
    refine lv_aload_n hx hb dX12_isWord_11 rfl (lv_at hl 0 rfl) ?_
    refine fg_18 hx hb hts hown hK hP dX12_isWord_12 ?_
    obtain ⟨v_3, hv_3, h⟩ := ob h
    refine ag_14 hx hb hK hP hv_3 dX12_isWord_15 ?_
    refine lv_iconst (v := 1) hx hb dX12_isWord_16 (by decide) ?_
    refine lv_icmp_ne (tgt := 36) hx hb dX12_isWord_17 (by decide) (fun c_4 => ?_) (fun c_4 => ?_)
    · skip
      replace h := (if_neg c_4).symm.trans h
      exact B_36  h _ _ _ hP hD hS (lv_sub hl [] rfl)
    · skip
      replace h := (if_pos c_4).symm.trans h
      refine lv_aload_n hx hb dX12_isWord_20 rfl (lv_at hl 0 rfl) ?_
      refine lv_aload_n hx hb dX12_isWord_21 rfl (lv_at hl 0 rfl) ?_
      refine fg_18 hx hb hts hown hK hP dX12_isWord_22 ?_
      refine lv_aload_n hx hb dX12_isWord_25 rfl (lv_at hl 1 rfl) ?_
      obtain ⟨v_5, hv_5, h⟩ := ob h
      refine calI (As := [.int (cs.1 18), .ref (K x1)]) hx hb hml hts hown hK hP hD hS hA hZ (s_isText l dC dI cB cI cJ cZ h0 a K V fz F cs (cs.1 18) x1 hi v_5 hv_5) (cw_isText hts (fr := 6) (Nat.le_of_ble_eq_true rfl) (Nat.le_of_ble_eq_true rfl)) rfl hl.1 (Nat.le_of_ble_eq_true rfl) ⟨Nat.zero_le _, Nat.zero_le _⟩ dX12_isWord_26 (fun H locs hP hD hS => ?_)
      refine lv_if_eq (tgt := 36) hx hb dX12_isWord_29 (by decide) (fun c_6 => ?_) (fun c_6 => ?_)
      · skip
        replace h := (if_pos c_6).symm.trans h
        exact B_36  h _ _ _ hP hD hS (lv_sub hl [] rfl)
      · skip
        replace h := (if_neg c_6).symm.trans h
        refine lv_iconst (v := 1) hx hb dX12_isWord_32 (by decide) ?_
        refine lv_goto (tgt := 37) hx hb dX12_isWord_33 (by decide) ?_
        exact B_37 1 h _ _ _ hP hD hS (lv_sub hl [] rfl)
theorem cw_isWord {R : Room} {s : State} {args : Array Value} {y0 : MethodName} {c0 : ByteArray} {n0 : Nat} {r0 : Option FieldType} (hts : ∀ w ∈ wsOf y0 c0 n0 r0, w.before args s = true) {fr : Nat} (h1 : fr + 1 ≤ R.frames) (h2 : 8 + (2 + 11) + 60 * fr ≤ R.locals) : CallW R s args RX12 RX12 322 yX12_isWord cX12_isWord 2 (some .boolean) (wsOf yX12_isWord cX12_isWord 2 (some .boolean)) ({ frames := fr, cells := 0, slots := 0, locals := 60 * fr } : Room) 0 0 1 := cwV 1 hts (gd_all (in_V kw_2245 kw_2247 kw_135 kw_191 kc_X12_isWord)) rfl rfl rfl (by decide +kernel) ⟨h1, h2⟩
theorem dX12_takeWord_0 : decode cX12_takeWord 0 = .ok (.aload_n 0, 1) := by decide +kernel
theorem dX12_takeWord_1 : decode cX12_takeWord 1 = .ok (.aload_n 1, 1) := by decide +kernel
theorem dX12_takeWord_2 : decode cX12_takeWord 2 = .ok (.invokevirtual 322, 3) := by decide +kernel
theorem dX12_takeWord_5 : decode cX12_takeWord 5 = .ok (.istore_n 2, 1) := by decide +kernel
theorem dX12_takeWord_6 : decode cX12_takeWord 6 = .ok (.aload_n 0, 1) := by decide +kernel
theorem dX12_takeWord_7 : decode cX12_takeWord 7 = .ok (.dup, 1) := by decide +kernel
theorem dX12_takeWord_8 : decode cX12_takeWord 8 = .ok (.getfield 302, 3) := by decide +kernel
theorem dX12_takeWord_11 : decode cX12_takeWord 11 = .ok (.iload_n 2, 1) := by decide +kernel
theorem dX12_takeWord_12 : decode cX12_takeWord 12 = .ok (.ifCond .eq 7, 3) := by decide +kernel
theorem dX12_takeWord_15 : decode cX12_takeWord 15 = .ok (.iconst 1, 1) := by decide +kernel
theorem dX12_takeWord_16 : decode cX12_takeWord 16 = .ok (.goto 4, 3) := by decide +kernel
theorem dX12_takeWord_19 : decode cX12_takeWord 19 = .ok (.iconst 0, 1) := by decide +kernel
theorem dX12_takeWord_20 : decode cX12_takeWord 20 = .ok (.iadd, 1) := by decide +kernel
theorem dX12_takeWord_21 : decode cX12_takeWord 21 = .ok (.putfield 302, 3) := by decide +kernel
theorem dX12_takeWord_24 : decode cX12_takeWord 24 = .ok (.iload_n 2, 1) := by decide +kernel
theorem dX12_takeWord_25 : decode cX12_takeWord 25 = .ok (.ireturn, 1) := by decide +kernel
def m_takeWord_b20 (F : Nat) (x1 : Nat) (cs1 : RS) (u2 : Int32) (y0 : Int32) (y1 : Int32) : Option (RS × Int32) := Option.bind (ckZ u2) fun _ => some (setF cs1 18 (y1 + y0), u2)
def m_takeWord (F : Nat) (cs : RS) (x1 : Nat) : Option (RS × Int32) := Option.bind (m_isWord F cs x1) fun v_2 => if v_2 = 0 then (m_takeWord_b20 F x1 cs v_2 0 (cs.1 18)) else (m_takeWord_b20 F x1 cs v_2 1 (cs.1 18))
set_option maxHeartbeats 4000000 in
set_option maxRecDepth 100000 in
theorem s_takeWord (l : Launch) (dC : Nat → ClassId) (dI : Nat → Nat → Nat) (cB cI cJ cZ : ClassId) (h0 : Nat) (a : Nat → Nat) (K V : Nat → Nat) (fz : Value) (F : Nat) (cs : RS) (x1 : Nat) (hi : x1 < 42) (cs9 : RS) (r9 : Int32) (hf : m_takeWord F cs x1 = some (cs9, r9)) : okI l dC dI cB cI cJ cZ h0 a K V fz yX12_takeWord (wsOf yX12_takeWord cX12_takeWord 3 (some .boolean)) (8) [.ref h0, .ref (K x1)] cs cs9 r9 := by
  intro sz
  refine Met.ofW (cc := cX12_takeWord) (maxL := 3) (ret := (some .boolean)) (by decide) rfl ?_
  intro p e s m args below meth c s₁ B hml hv
  obtain ⟨rfl, hsz, hP, hK, hD0, hZ⟩ := hv
  have hx := B.exec
  have hb := B.bytes
  have hr := B.returns
  have hts := atoms_spec (ws := (wsOf yX12_takeWord cX12_takeWord 3 (some .boolean))) B.pre
  have hown : s.vm.findClass RX12 = some m.cls := findClass_of_methodNamed B.named
  have hlocks := B.notSynchronized
  subst hsz
  have hD := hD0.self (sz := s.heap.size)
  generalize hAe : va_A (mW cB cI cJ cZ h0 a cs) s.heap.size = A at hD hZ ⊢
  have hA : ∀ q : Nat, s.heap.size ≤ q → A q := fun q h => by rw [← hAe]; exact Or.inr h
  have hS : va_S A s.heap s.heap [] := va_S.rf
  have hl := lv_entry ([.ref h0, .ref (K x1)]) (n := 3) (Nat.le_of_ble_eq_true rfl)
  rw [lg_entry_eq]
  generalize (lg_sl ([.ref h0, .ref (K x1)]) ++ List.replicate (3 - (lg_sl ([.ref h0, .ref (K x1)])).length) Slot.unset).toArray = ls at hl ⊢
  have hl : lv_has ls 3 [(0, .ref h0), (1, .ref (K x1))] := hl
  have B_20 : ∀ (cs1 : RS) (u2 : Int32) (y0 : Int32) (y1 : Int32), m_takeWord_b20 F x1 cs1 u2 y0 y1 = some (cs9, r9) → ∀ (H : Heap) (locs : List Loc) (ls : Array Slot), va_P (dC, dI) vwCl (mW cB cI cJ cZ h0 a cs1) H → va_D A (mW cB cI cJ cZ h0 a cs1) → va_S A s.heap H locs → lv_has ls 3 [(2, .int u2)] → W p l e (headSpec (wsOf yX12_takeWord cX12_takeWord 3 (some .boolean)) ({ frames := 8, cells := 0, slots := 0, locals := 60 * (8) } : Room)).room s m ([.ref h0, .ref (K x1)] : List Value).toArray below meth c H locs 0 0 (MQ below (va_Qi (fun (x : Int32) (_ : Unit) => x = r9) (fun _ t_ => va_P (dC, dI) vwCl (mW cB cI cJ cZ h0 a cs9) t_.heap ∧ va_D A (mW cB cI cJ cZ h0 a cs9)) A) ([.ref h0, .ref (K x1)] : List Value).toArray s 0 0 A) (F0 m 20 ls [.int y0, .int y1, .ref h0]) := by
    intro cs1 u2 y0 y1 h H locs ls hP hD hS hl
    unfold m_takeWord_b20 at h
    refine lv_iadd hx hb dX12_takeWord_20 ?_
    refine fp_18 hx hb hts hown hK hP hD hS dX12_takeWord_21 (fun H locs hP hD hS => ?_)
    refine lv_iload_n hx hb dX12_takeWord_24 rfl (lv_at hl 0 rfl) ?_
    obtain ⟨w_1, hw_1, h⟩ := ob h
    obtain ⟨e1, e2⟩ := Prod.mk.inj (Option.some.inj h)
    rw [e1] at hP hD
    exact W.zret (v := u2) hx hb hr (nzN (ckZ_some hw_1)) (fun t_ ht hW => ⟨⟨u2, (), rfl, e2, by rw [ht]; exact hP, hD⟩, hS.F ht⟩) hS.2.2 dX12_takeWord_25
  have h := hf
  unfold m_takeWord at h
  refine lv_aload_n hx hb dX12_takeWord_0 rfl (lv_at hl 0 rfl) ?_
  refine lv_aload_n hx hb dX12_takeWord_1 rfl (lv_at hl 1 rfl) ?_
  obtain ⟨v_2, hv_2, h⟩ := ob h
  refine calI (As := [.ref (K x1)]) hx hb hml hts hown hK hP hD hS hA hZ (s_isWord l dC dI cB cI cJ cZ h0 a K V fz F cs x1 hi v_2 hv_2) (cw_isWord hts (fr := 7) (Nat.le_of_ble_eq_true rfl) (Nat.le_of_ble_eq_true rfl)) rfl hl.1 (Nat.le_of_ble_eq_true rfl) ⟨Nat.zero_le _, Nat.zero_le _⟩ dX12_takeWord_2 (fun H locs hP hD hS => ?_)
  refine lv_istore_n (lv' := [(2, .int v_2), (0, .ref h0), (1, .ref (K x1))]) hx hb dX12_takeWord_5 rfl hl (by decide) rfl (fun ls hl => ?_)
  refine lv_aload_n hx hb dX12_takeWord_6 rfl (lv_at hl 1 rfl) ?_
  refine lv_dup hx hb dX12_takeWord_7 rfl ?_
  refine fg_18 hx hb hts hown hK hP dX12_takeWord_8 ?_
  refine lv_iload_n hx hb dX12_takeWord_11 rfl (lv_at hl 0 rfl) ?_
  refine lv_if_eq (tgt := 19) hx hb dX12_takeWord_12 (by decide) (fun c_3 => ?_) (fun c_3 => ?_)
  · skip
    replace h := (if_pos c_3).symm.trans h
    refine lv_iconst (v := 0) hx hb dX12_takeWord_19 (by decide) ?_
    exact B_20 cs v_2 0 (cs.1 18) h _ _ _ hP hD hS (lv_sub hl [0] rfl)
  · skip
    replace h := (if_neg c_3).symm.trans h
    refine lv_iconst (v := 1) hx hb dX12_takeWord_15 (by decide) ?_
    refine lv_goto (tgt := 20) hx hb dX12_takeWord_16 (by decide) ?_
    exact B_20 cs v_2 1 (cs.1 18) h _ _ _ hP hD hS (lv_sub hl [0] rfl)
theorem cw_takeWord {R : Room} {s : State} {args : Array Value} {y0 : MethodName} {c0 : ByteArray} {n0 : Nat} {r0 : Option FieldType} (hts : ∀ w ∈ wsOf y0 c0 n0 r0, w.before args s = true) {fr : Nat} (h1 : fr + 1 ≤ R.frames) (h2 : 8 + (3 + 11) + 60 * fr ≤ R.locals) : CallW R s args RX12 RX12 326 yX12_takeWord cX12_takeWord 3 (some .boolean) (wsOf yX12_takeWord cX12_takeWord 3 (some .boolean)) ({ frames := fr, cells := 0, slots := 0, locals := 60 * fr } : Room) 0 0 1 := cwV 1 hts (gd_all (in_V kw_2241 kw_2243 kw_134 kw_191 kc_X12_takeWord)) rfl rfl rfl (by decide +kernel) ⟨h1, h2⟩
theorem dX12_needWord_0 : decode cX12_needWord 0 = .ok (.aload_n 0, 1) := by decide +kernel
theorem dX12_needWord_1 : decode cX12_needWord 1 = .ok (.aload_n 1, 1) := by decide +kernel
theorem dX12_needWord_2 : decode cX12_needWord 2 = .ok (.invokevirtual 326, 3) := by decide +kernel
theorem dX12_needWord_5 : decode cX12_needWord 5 = .ok (.ifCond .ne 7, 3) := by decide +kernel
theorem dX12_needWord_8 : decode cX12_needWord 8 = .ok (.aload_n 0, 1) := by decide +kernel
theorem dX12_needWord_9 : decode cX12_needWord 9 = .ok (.invokevirtual 329, 3) := by decide +kernel
theorem dX12_needWord_12 : decode cX12_needWord 12 = .ok (.return_, 1) := by decide +kernel
def m_needWord_b12 (F : Nat) (x1 : Nat) (cs1 : RS) : Option RS := some cs1
def m_needWord (F : Nat) (cs : RS) (x1 : Nat) : Option RS := Option.bind (m_takeWord F cs x1) fun z_1 => if z_1.2 = 0 then (Option.bind (m_wrong F z_1.1 ) fun cs_3 => m_needWord_b12 F x1 cs_3) else (m_needWord_b12 F x1 z_1.1)
set_option maxHeartbeats 4000000 in
set_option maxRecDepth 100000 in
theorem s_needWord (l : Launch) (dC : Nat → ClassId) (dI : Nat → Nat → Nat) (cB cI cJ cZ : ClassId) (h0 : Nat) (a : Nat → Nat) (K V : Nat → Nat) (fz : Value) (F : Nat) (cs : RS) (x1 : Nat) (hi : x1 < 42) (cs9 : RS) (hf : m_needWord F cs x1 = some cs9) : okV l dC dI cB cI cJ cZ h0 a K V fz yX12_needWord (wsOf yX12_needWord cX12_needWord 2 none) (9) [.ref h0, .ref (K x1)] cs cs9 := by
  intro sz
  refine Met.ofW (cc := cX12_needWord) (maxL := 2) (ret := none) (by decide) rfl ?_
  intro p e s m args below meth c s₁ B hml hv
  obtain ⟨rfl, hsz, hP, hK, hD0, hZ⟩ := hv
  have hx := B.exec
  have hb := B.bytes
  have hr := B.returns
  have hts := atoms_spec (ws := (wsOf yX12_needWord cX12_needWord 2 none)) B.pre
  have hown : s.vm.findClass RX12 = some m.cls := findClass_of_methodNamed B.named
  have hlocks := B.notSynchronized
  subst hsz
  have hD := hD0.self (sz := s.heap.size)
  generalize hAe : va_A (mW cB cI cJ cZ h0 a cs) s.heap.size = A at hD hZ ⊢
  have hA : ∀ q : Nat, s.heap.size ≤ q → A q := fun q h => by rw [← hAe]; exact Or.inr h
  have hS : va_S A s.heap s.heap [] := va_S.rf
  have hl := lv_entry ([.ref h0, .ref (K x1)]) (n := 2) (Nat.le_of_ble_eq_true rfl)
  rw [lg_entry_eq]
  generalize (lg_sl ([.ref h0, .ref (K x1)]) ++ List.replicate (2 - (lg_sl ([.ref h0, .ref (K x1)])).length) Slot.unset).toArray = ls at hl ⊢
  have hl : lv_has ls 2 [(0, .ref h0), (1, .ref (K x1))] := hl
  have B_12 : ∀ (cs1 : RS) , m_needWord_b12 F x1 cs1 = some cs9 → ∀ (H : Heap) (locs : List Loc) (ls : Array Slot), va_P (dC, dI) vwCl (mW cB cI cJ cZ h0 a cs1) H → va_D A (mW cB cI cJ cZ h0 a cs1) → va_S A s.heap H locs → lv_has ls 2 [] → W p l e (headSpec (wsOf yX12_needWord cX12_needWord 2 none) ({ frames := 9, cells := 0, slots := 0, locals := 60 * (9) } : Room)).room s m ([.ref h0, .ref (K x1)] : List Value).toArray below meth c H locs 0 0 (MQ below (va_Qv (fun (_ : Unit) => True) (fun _ t_ => va_P (dC, dI) vwCl (mW cB cI cJ cZ h0 a cs9) t_.heap ∧ va_D A (mW cB cI cJ cZ h0 a cs9)) A) ([.ref h0, .ref (K x1)] : List Value).toArray s 0 0 A) (F0 m 12 ls []) := by
    intro cs1  h H locs ls hP hD hS hl
    unfold m_needWord_b12 at h
    have e1 := Option.some.inj h
    rw [e1] at hP hD
    exact W.vret hx hb hr (fun t_ ht hW => ⟨⟨(), rfl, trivial, by rw [ht]; exact hP, hD⟩, hS.F ht⟩) hS.2.2 dX12_needWord_12
  have h := hf
  unfold m_needWord at h
  refine lv_aload_n hx hb dX12_needWord_0 rfl (lv_at hl 0 rfl) ?_
  refine lv_aload_n hx hb dX12_needWord_1 rfl (lv_at hl 1 rfl) ?_
  obtain ⟨z_1, hv_1, h⟩ := ob h
  refine calI (As := [.ref (K x1)]) hx hb hml hts hown hK hP hD hS hA hZ (s_takeWord l dC dI cB cI cJ cZ h0 a K V fz F cs x1 hi z_1.1 z_1.2 hv_1) (cw_takeWord hts (fr := 8) (Nat.le_of_ble_eq_true rfl) (Nat.le_of_ble_eq_true rfl)) rfl hl.1 (Nat.le_of_ble_eq_true rfl) ⟨Nat.zero_le _, Nat.zero_le _⟩ dX12_needWord_2 (fun H locs hP hD hS => ?_)
  refine lv_if_ne (tgt := 12) hx hb dX12_needWord_5 (by decide) (fun c_2 => ?_) (fun c_2 => ?_)
  · skip
    replace h := (if_neg c_2).symm.trans h
    exact B_12 z_1.1 h _ _ _ hP hD hS (lv_sub hl [] rfl)
  · skip
    replace h := (if_pos c_2).symm.trans h
    refine lv_aload_n hx hb dX12_needWord_8 rfl (lv_at hl 0 rfl) ?_
    obtain ⟨cs_3, hv_3, h⟩ := ob h
    refine calV (As := []) hx hb hml hts hown hK hP hD hS hA hZ (s_wrong l dC dI cB cI cJ cZ h0 a K V fz F z_1.1  cs_3 hv_3) (cw_wrong hts (fr := 1) (Nat.le_of_ble_eq_true rfl) (Nat.le_of_ble_eq_true rfl)) rfl hl.1 (Nat.le_of_ble_eq_true rfl) ⟨Nat.zero_le _, Nat.zero_le _⟩ dX12_needWord_9 (fun H locs hP hD hS => ?_)
    exact B_12 cs_3 h _ _ _ hP hD hS (lv_sub hl [] rfl)
theorem cw_needWord {R : Room} {s : State} {args : Array Value} {y0 : MethodName} {c0 : ByteArray} {n0 : Nat} {r0 : Option FieldType} (hts : ∀ w ∈ wsOf y0 c0 n0 r0, w.before args s = true) {fr : Nat} (h1 : fr + 1 ≤ R.frames) (h2 : 8 + (2 + 11) + 60 * fr ≤ R.locals) : CallW R s args RX12 RX12 408 yX12_needWord cX12_needWord 2 none (wsOf yX12_needWord cX12_needWord 2 none) ({ frames := fr, cells := 0, slots := 0, locals := 60 * fr } : Room) 0 0 1 := cwV 1 hts (gd_all (in_V kw_2264 kw_2266 kw_139 kw_191 kc_X12_needWord)) rfl rfl rfl (by decide +kernel) ⟨h1, h2⟩
theorem dX12_isSign_0 : decode cX12_isSign 0 = .ok (.aload_n 0, 1) := by decide +kernel
theorem dX12_isSign_1 : decode cX12_isSign 1 = .ok (.getfield 292, 3) := by decide +kernel
theorem dX12_isSign_4 : decode cX12_isSign 4 = .ok (.ifCond .eq 20, 3) := by decide +kernel
theorem dX12_isSign_7 : decode cX12_isSign 7 = .ok (.aload_n 0, 1) := by decide +kernel
theorem dX12_isSign_8 : decode cX12_isSign 8 = .ok (.getfield 40, 3) := by decide +kernel
theorem dX12_isSign_11 : decode cX12_isSign 11 = .ok (.aload_n 0, 1) := by decide +kernel
theorem dX12_isSign_12 : decode cX12_isSign 12 = .ok (.getfield 302, 3) := by decide +kernel
theorem dX12_isSign_15 : decode cX12_isSign 15 = .ok (.iaload, 1) := by decide +kernel
theorem dX12_isSign_16 : decode cX12_isSign 16 = .ok (.iload_n 1, 1) := by decide +kernel
theorem dX12_isSign_17 : decode cX12_isSign 17 = .ok (.if_icmp .ne 7, 3) := by decide +kernel
theorem dX12_isSign_20 : decode cX12_isSign 20 = .ok (.iconst 1, 1) := by decide +kernel
theorem dX12_isSign_21 : decode cX12_isSign 21 = .ok (.goto 4, 3) := by decide +kernel
theorem dX12_isSign_24 : decode cX12_isSign 24 = .ok (.iconst 0, 1) := by decide +kernel
theorem dX12_isSign_25 : decode cX12_isSign 25 = .ok (.ireturn, 1) := by decide +kernel
def m_isSign_b25 (F : Nat) (cs : RS) (y0 : Int32) : Option Int32 := Option.bind (ckZ y0) fun _ => some y0
def m_isSign_b24 (F : Nat) (cs : RS) : Option Int32 := m_isSign_b25 F cs 0
def m_isSign (F : Nat) (cs : RS) (x1 : Int32) : Option Int32 := if (cs.1 21) = 0 then (m_isSign_b24 F cs ) else (Option.bind (rdI (cs.2.2.1 14) 2001 (cs.1 18)) fun v_3 => if v_3 = x1 then (m_isSign_b25 F cs 1) else (m_isSign_b24 F cs ))
set_option maxHeartbeats 4000000 in
set_option maxRecDepth 100000 in
theorem s_isSign (l : Launch) (dC : Nat → ClassId) (dI : Nat → Nat → Nat) (cB cI cJ cZ : ClassId) (h0 : Nat) (a : Nat → Nat) (K V : Nat → Nat) (fz : Value) (F : Nat) (cs : RS) (x1 : Int32) (r9 : Int32) (hf : m_isSign F cs x1 = some r9) : okI l dC dI cB cI cJ cZ h0 a K V fz yX12_isSign (wsOf yX12_isSign cX12_isSign 2 (some .boolean)) (0) [.ref h0, .int x1] cs cs r9 := by
  intro sz
  refine Met.ofW (cc := cX12_isSign) (maxL := 2) (ret := (some .boolean)) (by decide) rfl ?_
  intro p e s m args below meth c s₁ B hml hv
  obtain ⟨rfl, hsz, hP, hK, hD0, hZ⟩ := hv
  have hx := B.exec
  have hb := B.bytes
  have hr := B.returns
  have hts := atoms_spec (ws := (wsOf yX12_isSign cX12_isSign 2 (some .boolean))) B.pre
  have hown : s.vm.findClass RX12 = some m.cls := findClass_of_methodNamed B.named
  have hlocks := B.notSynchronized
  subst hsz
  have hD := hD0.self (sz := s.heap.size)
  generalize hAe : va_A (mW cB cI cJ cZ h0 a cs) s.heap.size = A at hD hZ ⊢
  have hA : ∀ q : Nat, s.heap.size ≤ q → A q := fun q h => by rw [← hAe]; exact Or.inr h
  have hS : va_S A s.heap s.heap [] := va_S.rf
  have hl := lv_entry ([.ref h0, .int x1]) (n := 2) (Nat.le_of_ble_eq_true rfl)
  rw [lg_entry_eq]
  generalize (lg_sl ([.ref h0, .int x1]) ++ List.replicate (2 - (lg_sl ([.ref h0, .int x1])).length) Slot.unset).toArray = ls at hl ⊢
  have hl : lv_has ls 2 [(0, .ref h0), (1, .int x1)] := hl
  have B_25 : ∀ (y0 : Int32), m_isSign_b25 F cs y0 = some r9 → ∀ (H : Heap) (locs : List Loc) (ls : Array Slot), va_P (dC, dI) vwCl (mW cB cI cJ cZ h0 a cs) H → va_D A (mW cB cI cJ cZ h0 a cs) → va_S A s.heap H locs → lv_has ls 2 [] → W p l e (headSpec (wsOf yX12_isSign cX12_isSign 2 (some .boolean)) ({ frames := 0, cells := 0, slots := 0, locals := 60 * (0) } : Room)).room s m ([.ref h0, .int x1] : List Value).toArray below meth c H locs 0 0 (MQ below (va_Qi (fun (x : Int32) (_ : Unit) => x = r9) (fun _ t_ => va_P (dC, dI) vwCl (mW cB cI cJ cZ h0 a cs) t_.heap ∧ va_D A (mW cB cI cJ cZ h0 a cs)) A) ([.ref h0, .int x1] : List Value).toArray s 0 0 A) (F0 m 25 ls [.int y0]) := by
    intro y0 h H locs ls hP hD hS hl
    unfold m_isSign_b25 at h
    obtain ⟨w_1, hw_1, h⟩ := ob h
    have e2 := Option.some.inj h
    exact W.zret (v := y0) hx hb hr (nzN (ckZ_some hw_1)) (fun t_ ht hW => ⟨⟨y0, (), rfl, e2, by rw [ht]; exact hP, hD⟩, hS.F ht⟩) hS.2.2 dX12_isSign_25
  have B_24 : m_isSign_b24 F cs = some r9 → ∀ (H : Heap) (locs : List Loc) (ls : Array Slot), va_P (dC, dI) vwCl (mW cB cI cJ cZ h0 a cs) H → va_D A (mW cB cI cJ cZ h0 a cs) → va_S A s.heap H locs → lv_has ls 2 [] → W p l e (headSpec (wsOf yX12_isSign cX12_isSign 2 (some .boolean)) ({ frames := 0, cells := 0, slots := 0, locals := 60 * (0) } : Room)).room s m ([.ref h0, .int x1] : List Value).toArray below meth c H locs 0 0 (MQ below (va_Qi (fun (x : Int32) (_ : Unit) => x = r9) (fun _ t_ => va_P (dC, dI) vwCl (mW cB cI cJ cZ h0 a cs) t_.heap ∧ va_D A (mW cB cI cJ cZ h0 a cs)) A) ([.ref h0, .int x1] : List Value).toArray s 0 0 A) (F0 m 24 ls []) := by
    intro  h H locs ls hP hD hS hl
    unfold m_isSign_b24 at h
    refine lv_iconst (v := 0) hx hb dX12_isSign_24 (by decide) ?_
    exact B_25 0 h _ _ _ hP hD hS (lv_sub hl [] rfl)
  have h := hf
  unfold m_isSign at h
  refine lv_aload_n hx hb dX12_isSign_0 rfl (lv_at hl 0 rfl) ?_
  refine fg_21 hx hb hts hown hK hP dX12_isSign_1 ?_
  refine lv_if_eq (tgt := 24) hx hb dX12_isSign_4 (by decide) (fun c_2 => ?_) (fun c_2 => ?_)
  · skip
    replace h := (if_pos c_2).symm.trans h
    exact B_24  h _ _ _ hP hD hS (lv_sub hl [] rfl)
  · skip
    replace h := (if_neg c_2).symm.trans h
    refine lv_aload_n hx hb dX12_isSign_7 rfl (lv_at hl 0 rfl) ?_
    refine fg_14 hx hb hts hown hK hP dX12_isSign_8 ?_
    refine lv_aload_n hx hb dX12_isSign_11 rfl (lv_at hl 0 rfl) ?_
    refine fg_18 hx hb hts hown hK hP dX12_isSign_12 ?_
    obtain ⟨v_3, hv_3, h⟩ := ob h
    refine ag_14 hx hb hK hP hv_3 dX12_isSign_15 ?_
    refine lv_iload_n hx hb dX12_isSign_16 rfl (lv_at hl 1 rfl) ?_
    refine lv_icmp_ne (tgt := 24) hx hb dX12_isSign_17 (by decide) (fun c_4 => ?_) (fun c_4 => ?_)
    · skip
      replace h := (if_neg c_4).symm.trans h
      exact B_24  h _ _ _ hP hD hS (lv_sub hl [] rfl)
    · skip
      replace h := (if_pos c_4).symm.trans h
      refine lv_iconst (v := 1) hx hb dX12_isSign_20 (by decide) ?_
      refine lv_goto (tgt := 25) hx hb dX12_isSign_21 (by decide) ?_
      exact B_25 1 h _ _ _ hP hD hS (lv_sub hl [] rfl)
theorem cw_isSign {R : Room} {s : State} {args : Array Value} {y0 : MethodName} {c0 : ByteArray} {n0 : Nat} {r0 : Option FieldType} (hts : ∀ w ∈ wsOf y0 c0 n0 r0, w.before args s = true) {fr : Nat} (h1 : fr + 1 ≤ R.frames) (h2 : 8 + (2 + 11) + 60 * fr ≤ R.locals) : CallW R s args RX12 RX12 332 yX12_isSign cX12_isSign 2 (some .boolean) (wsOf yX12_isSign cX12_isSign 2 (some .boolean)) ({ frames := fr, cells := 0, slots := 0, locals := 60 * fr } : Room) 0 0 1 := cwV 1 hts (gd_all (in_V kw_2325 kw_2327 kw_151 kw_191 kc_X12_isSign)) rfl rfl rfl (by decide +kernel) ⟨h1, h2⟩
theorem dX12_takeSign_0 : decode cX12_takeSign 0 = .ok (.aload_n 0, 1) := by decide +kernel
theorem dX12_takeSign_1 : decode cX12_takeSign 1 = .ok (.iload_n 1, 1) := by decide +kernel
theorem dX12_takeSign_2 : decode cX12_takeSign 2 = .ok (.invokevirtual 332, 3) := by decide +kernel
theorem dX12_takeSign_5 : decode cX12_takeSign 5 = .ok (.istore_n 2, 1) := by decide +kernel
theorem dX12_takeSign_6 : decode cX12_takeSign 6 = .ok (.aload_n 0, 1) := by decide +kernel
theorem dX12_takeSign_7 : decode cX12_takeSign 7 = .ok (.dup, 1) := by decide +kernel
theorem dX12_takeSign_8 : decode cX12_takeSign 8 = .ok (.getfield 302, 3) := by decide +kernel
theorem dX12_takeSign_11 : decode cX12_takeSign 11 = .ok (.iload_n 2, 1) := by decide +kernel
theorem dX12_takeSign_12 : decode cX12_takeSign 12 = .ok (.ifCond .eq 7, 3) := by decide +kernel
theorem dX12_takeSign_15 : decode cX12_takeSign 15 = .ok (.iconst 1, 1) := by decide +kernel
theorem dX12_takeSign_16 : decode cX12_takeSign 16 = .ok (.goto 4, 3) := by decide +kernel
theorem dX12_takeSign_19 : decode cX12_takeSign 19 = .ok (.iconst 0, 1) := by decide +kernel
theorem dX12_takeSign_20 : decode cX12_takeSign 20 = .ok (.iadd, 1) := by decide +kernel
theorem dX12_takeSign_21 : decode cX12_takeSign 21 = .ok (.putfield 302, 3) := by decide +kernel
theorem dX12_takeSign_24 : decode cX12_takeSign 24 = .ok (.iload_n 2, 1) := by decide +kernel
theorem dX12_takeSign_25 : decode cX12_takeSign 25 = .ok (.ireturn, 1) := by decide +kernel
def m_takeSign_b20 (F : Nat) (cs1 : RS) (u2 : Int32) (y0 : Int32) (y1 : Int32) : Option (RS × Int32) := Option.bind (ckZ u2) fun _ => some (setF cs1 18 (y1 + y0), u2)
def m_takeSign (F : Nat) (cs : RS) (x1 : Int32) : Option (RS × Int32) := Option.bind (m_isSign F cs x1) fun v_2 => if v_2 = 0 then (m_takeSign_b20 F cs v_2 0 (cs.1 18)) else (m_takeSign_b20 F cs v_2 1 (cs.1 18))
set_option maxHeartbeats 4000000 in
set_option maxRecDepth 100000 in
theorem s_takeSign (l : Launch) (dC : Nat → ClassId) (dI : Nat → Nat → Nat) (cB cI cJ cZ : ClassId) (h0 : Nat) (a : Nat → Nat) (K V : Nat → Nat) (fz : Value) (F : Nat) (cs : RS) (x1 : Int32) (cs9 : RS) (r9 : Int32) (hf : m_takeSign F cs x1 = some (cs9, r9)) : okI l dC dI cB cI cJ cZ h0 a K V fz yX12_takeSign (wsOf yX12_takeSign cX12_takeSign 3 (some .boolean)) (1) [.ref h0, .int x1] cs cs9 r9 := by
  intro sz
  refine Met.ofW (cc := cX12_takeSign) (maxL := 3) (ret := (some .boolean)) (by decide) rfl ?_
  intro p e s m args below meth c s₁ B hml hv
  obtain ⟨rfl, hsz, hP, hK, hD0, hZ⟩ := hv
  have hx := B.exec
  have hb := B.bytes
  have hr := B.returns
  have hts := atoms_spec (ws := (wsOf yX12_takeSign cX12_takeSign 3 (some .boolean))) B.pre
  have hown : s.vm.findClass RX12 = some m.cls := findClass_of_methodNamed B.named
  have hlocks := B.notSynchronized
  subst hsz
  have hD := hD0.self (sz := s.heap.size)
  generalize hAe : va_A (mW cB cI cJ cZ h0 a cs) s.heap.size = A at hD hZ ⊢
  have hA : ∀ q : Nat, s.heap.size ≤ q → A q := fun q h => by rw [← hAe]; exact Or.inr h
  have hS : va_S A s.heap s.heap [] := va_S.rf
  have hl := lv_entry ([.ref h0, .int x1]) (n := 3) (Nat.le_of_ble_eq_true rfl)
  rw [lg_entry_eq]
  generalize (lg_sl ([.ref h0, .int x1]) ++ List.replicate (3 - (lg_sl ([.ref h0, .int x1])).length) Slot.unset).toArray = ls at hl ⊢
  have hl : lv_has ls 3 [(0, .ref h0), (1, .int x1)] := hl
  have B_20 : ∀ (cs1 : RS) (u2 : Int32) (y0 : Int32) (y1 : Int32), m_takeSign_b20 F cs1 u2 y0 y1 = some (cs9, r9) → ∀ (H : Heap) (locs : List Loc) (ls : Array Slot), va_P (dC, dI) vwCl (mW cB cI cJ cZ h0 a cs1) H → va_D A (mW cB cI cJ cZ h0 a cs1) → va_S A s.heap H locs → lv_has ls 3 [(2, .int u2)] → W p l e (headSpec (wsOf yX12_takeSign cX12_takeSign 3 (some .boolean)) ({ frames := 1, cells := 0, slots := 0, locals := 60 * (1) } : Room)).room s m ([.ref h0, .int x1] : List Value).toArray below meth c H locs 0 0 (MQ below (va_Qi (fun (x : Int32) (_ : Unit) => x = r9) (fun _ t_ => va_P (dC, dI) vwCl (mW cB cI cJ cZ h0 a cs9) t_.heap ∧ va_D A (mW cB cI cJ cZ h0 a cs9)) A) ([.ref h0, .int x1] : List Value).toArray s 0 0 A) (F0 m 20 ls [.int y0, .int y1, .ref h0]) := by
    intro cs1 u2 y0 y1 h H locs ls hP hD hS hl
    unfold m_takeSign_b20 at h
    refine lv_iadd hx hb dX12_takeSign_20 ?_
    refine fp_18 hx hb hts hown hK hP hD hS dX12_takeSign_21 (fun H locs hP hD hS => ?_)
    refine lv_iload_n hx hb dX12_takeSign_24 rfl (lv_at hl 0 rfl) ?_
    obtain ⟨w_1, hw_1, h⟩ := ob h
    obtain ⟨e1, e2⟩ := Prod.mk.inj (Option.some.inj h)
    rw [e1] at hP hD
    exact W.zret (v := u2) hx hb hr (nzN (ckZ_some hw_1)) (fun t_ ht hW => ⟨⟨u2, (), rfl, e2, by rw [ht]; exact hP, hD⟩, hS.F ht⟩) hS.2.2 dX12_takeSign_25
  have h := hf
  unfold m_takeSign at h
  refine lv_aload_n hx hb dX12_takeSign_0 rfl (lv_at hl 0 rfl) ?_
  refine lv_iload_n hx hb dX12_takeSign_1 rfl (lv_at hl 1 rfl) ?_
  obtain ⟨v_2, hv_2, h⟩ := ob h
  refine calI (As := [.int x1]) hx hb hml hts hown hK hP hD hS hA hZ (s_isSign l dC dI cB cI cJ cZ h0 a K V fz F cs x1 v_2 hv_2) (cw_isSign hts (fr := 0) (Nat.le_of_ble_eq_true rfl) (Nat.le_of_ble_eq_true rfl)) rfl hl.1 (Nat.le_of_ble_eq_true rfl) ⟨Nat.zero_le _, Nat.zero_le _⟩ dX12_takeSign_2 (fun H locs hP hD hS => ?_)
  refine lv_istore_n (lv' := [(2, .int v_2), (0, .ref h0), (1, .int x1)]) hx hb dX12_takeSign_5 rfl hl (by decide) rfl (fun ls hl => ?_)
  refine lv_aload_n hx hb dX12_takeSign_6 rfl (lv_at hl 1 rfl) ?_
  refine lv_dup hx hb dX12_takeSign_7 rfl ?_
  refine fg_18 hx hb hts hown hK hP dX12_takeSign_8 ?_
  refine lv_iload_n hx hb dX12_takeSign_11 rfl (lv_at hl 0 rfl) ?_
  refine lv_if_eq (tgt := 19) hx hb dX12_takeSign_12 (by decide) (fun c_3 => ?_) (fun c_3 => ?_)
  · skip
    replace h := (if_pos c_3).symm.trans h
    refine lv_iconst (v := 0) hx hb dX12_takeSign_19 (by decide) ?_
    exact B_20 cs v_2 0 (cs.1 18) h _ _ _ hP hD hS (lv_sub hl [0] rfl)
  · skip
    replace h := (if_neg c_3).symm.trans h
    refine lv_iconst (v := 1) hx hb dX12_takeSign_15 (by decide) ?_
    refine lv_goto (tgt := 20) hx hb dX12_takeSign_16 (by decide) ?_
    exact B_20 cs v_2 1 (cs.1 18) h _ _ _ hP hD hS (lv_sub hl [0] rfl)
theorem cw_takeSign {R : Room} {s : State} {args : Array Value} {y0 : MethodName} {c0 : ByteArray} {n0 : Nat} {r0 : Option FieldType} (hts : ∀ w ∈ wsOf y0 c0 n0 r0, w.before args s = true) {fr : Nat} (h1 : fr + 1 ≤ R.frames) (h2 : 8 + (3 + 11) + 60 * fr ≤ R.locals) : CallW R s args RX12 RX12 335 yX12_takeSign cX12_takeSign 3 (some .boolean) (wsOf yX12_takeSign cX12_takeSign 3 (some .boolean)) ({ frames := fr, cells := 0, slots := 0, locals := 60 * fr } : Room) 0 0 1 := cwV 1 hts (gd_all (in_V kw_2345 kw_2347 kw_156 kw_191 kc_X12_takeSign)) rfl rfl rfl (by decide +kernel) ⟨h1, h2⟩
theorem dX12_needSign_0 : decode cX12_needSign 0 = .ok (.aload_n 0, 1) := by decide +kernel
theorem dX12_needSign_1 : decode cX12_needSign 1 = .ok (.iload_n 1, 1) := by decide +kernel
theorem dX12_needSign_2 : decode cX12_needSign 2 = .ok (.invokevirtual 335, 3) := by decide +kernel
theorem dX12_needSign_5 : decode cX12_needSign 5 = .ok (.ifCond .ne 7, 3) := by decide +kernel
theorem dX12_needSign_8 : decode cX12_needSign 8 = .ok (.aload_n 0, 1) := by decide +kernel
theorem dX12_needSign_9 : decode cX12_needSign 9 = .ok (.invokevirtual 329, 3) := by decide +kernel
theorem dX12_needSign_12 : decode cX12_needSign 12 = .ok (.return_, 1) := by decide +kernel
def m_needSign_b12 (F : Nat) (cs1 : RS) : Option RS := some cs1
def m_needSign (F : Nat) (cs : RS) (x1 : Int32) : Option RS := Option.bind (m_takeSign F cs x1) fun z_1 => if z_1.2 = 0 then (Option.bind (m_wrong F z_1.1 ) fun cs_3 => m_needSign_b12 F cs_3) else (m_needSign_b12 F z_1.1)
set_option maxHeartbeats 4000000 in
set_option maxRecDepth 100000 in
theorem s_needSign (l : Launch) (dC : Nat → ClassId) (dI : Nat → Nat → Nat) (cB cI cJ cZ : ClassId) (h0 : Nat) (a : Nat → Nat) (K V : Nat → Nat) (fz : Value) (F : Nat) (cs : RS) (x1 : Int32) (cs9 : RS) (hf : m_needSign F cs x1 = some cs9) : okV l dC dI cB cI cJ cZ h0 a K V fz yX12_needSign (wsOf yX12_needSign cX12_needSign 2 none) (2) [.ref h0, .int x1] cs cs9 := by
  intro sz
  refine Met.ofW (cc := cX12_needSign) (maxL := 2) (ret := none) (by decide) rfl ?_
  intro p e s m args below meth c s₁ B hml hv
  obtain ⟨rfl, hsz, hP, hK, hD0, hZ⟩ := hv
  have hx := B.exec
  have hb := B.bytes
  have hr := B.returns
  have hts := atoms_spec (ws := (wsOf yX12_needSign cX12_needSign 2 none)) B.pre
  have hown : s.vm.findClass RX12 = some m.cls := findClass_of_methodNamed B.named
  have hlocks := B.notSynchronized
  subst hsz
  have hD := hD0.self (sz := s.heap.size)
  generalize hAe : va_A (mW cB cI cJ cZ h0 a cs) s.heap.size = A at hD hZ ⊢
  have hA : ∀ q : Nat, s.heap.size ≤ q → A q := fun q h => by rw [← hAe]; exact Or.inr h
  have hS : va_S A s.heap s.heap [] := va_S.rf
  have hl := lv_entry ([.ref h0, .int x1]) (n := 2) (Nat.le_of_ble_eq_true rfl)
  rw [lg_entry_eq]
  generalize (lg_sl ([.ref h0, .int x1]) ++ List.replicate (2 - (lg_sl ([.ref h0, .int x1])).length) Slot.unset).toArray = ls at hl ⊢
  have hl : lv_has ls 2 [(0, .ref h0), (1, .int x1)] := hl
  have B_12 : ∀ (cs1 : RS) , m_needSign_b12 F cs1 = some cs9 → ∀ (H : Heap) (locs : List Loc) (ls : Array Slot), va_P (dC, dI) vwCl (mW cB cI cJ cZ h0 a cs1) H → va_D A (mW cB cI cJ cZ h0 a cs1) → va_S A s.heap H locs → lv_has ls 2 [] → W p l e (headSpec (wsOf yX12_needSign cX12_needSign 2 none) ({ frames := 2, cells := 0, slots := 0, locals := 60 * (2) } : Room)).room s m ([.ref h0, .int x1] : List Value).toArray below meth c H locs 0 0 (MQ below (va_Qv (fun (_ : Unit) => True) (fun _ t_ => va_P (dC, dI) vwCl (mW cB cI cJ cZ h0 a cs9) t_.heap ∧ va_D A (mW cB cI cJ cZ h0 a cs9)) A) ([.ref h0, .int x1] : List Value).toArray s 0 0 A) (F0 m 12 ls []) := by
    intro cs1  h H locs ls hP hD hS hl
    unfold m_needSign_b12 at h
    have e1 := Option.some.inj h
    rw [e1] at hP hD
    exact W.vret hx hb hr (fun t_ ht hW => ⟨⟨(), rfl, trivial, by rw [ht]; exact hP, hD⟩, hS.F ht⟩) hS.2.2 dX12_needSign_12
  have h := hf
  unfold m_needSign at h
  refine lv_aload_n hx hb dX12_needSign_0 rfl (lv_at hl 0 rfl) ?_
  refine lv_iload_n hx hb dX12_needSign_1 rfl (lv_at hl 1 rfl) ?_
  obtain ⟨z_1, hv_1, h⟩ := ob h
  refine calI (As := [.int x1]) hx hb hml hts hown hK hP hD hS hA hZ (s_takeSign l dC dI cB cI cJ cZ h0 a K V fz F cs x1 z_1.1 z_1.2 hv_1) (cw_takeSign hts (fr := 1) (Nat.le_of_ble_eq_true rfl) (Nat.le_of_ble_eq_true rfl)) rfl hl.1 (Nat.le_of_ble_eq_true rfl) ⟨Nat.zero_le _, Nat.zero_le _⟩ dX12_needSign_2 (fun H locs hP hD hS => ?_)
  refine lv_if_ne (tgt := 12) hx hb dX12_needSign_5 (by decide) (fun c_2 => ?_) (fun c_2 => ?_)
  · skip
    replace h := (if_neg c_2).symm.trans h
    exact B_12 z_1.1 h _ _ _ hP hD hS (lv_sub hl [] rfl)
  · skip
    replace h := (if_pos c_2).symm.trans h
    refine lv_aload_n hx hb dX12_needSign_8 rfl (lv_at hl 0 rfl) ?_
    obtain ⟨cs_3, hv_3, h⟩ := ob h
    refine calV (As := []) hx hb hml hts hown hK hP hD hS hA hZ (s_wrong l dC dI cB cI cJ cZ h0 a K V fz F z_1.1  cs_3 hv_3) (cw_wrong hts (fr := 1) (Nat.le_of_ble_eq_true rfl) (Nat.le_of_ble_eq_true rfl)) rfl hl.1 (Nat.le_of_ble_eq_true rfl) ⟨Nat.zero_le _, Nat.zero_le _⟩ dX12_needSign_9 (fun H locs hP hD hS => ?_)
    exact B_12 cs_3 h _ _ _ hP hD hS (lv_sub hl [] rfl)
theorem cw_needSign {R : Room} {s : State} {args : Array Value} {y0 : MethodName} {c0 : ByteArray} {n0 : Nat} {r0 : Option FieldType} (hts : ∀ w ∈ wsOf y0 c0 n0 r0, w.before args s = true) {fr : Nat} (h1 : fr + 1 ≤ R.frames) (h2 : 8 + (2 + 11) + 60 * fr ≤ R.locals) : CallW R s args RX12 RX12 414 yX12_needSign cX12_needSign 2 none (wsOf yX12_needSign cX12_needSign 2 none) ({ frames := fr, cells := 0, slots := 0, locals := 60 * fr } : Room) 0 0 1 := cwV 1 hts (gd_all (in_V kw_2341 kw_2343 kw_155 kw_191 kc_X12_needSign)) rfl rfl rfl (by decide +kernel) ⟨h1, h2⟩
theorem dX12_isTaken_0 : decode cX12_isTaken 0 = .ok (.aload_n 0, 1) := by decide +kernel
theorem dX12_isTaken_1 : decode cX12_isTaken 1 = .ok (.getfield 46, 3) := by decide +kernel
theorem dX12_isTaken_4 : decode cX12_isTaken 4 = .ok (.iload_n 1, 1) := by decide +kernel
theorem dX12_isTaken_5 : decode cX12_isTaken 5 = .ok (.iaload, 1) := by decide +kernel
theorem dX12_isTaken_6 : decode cX12_isTaken 6 = .ok (.istore_n 2, 1) := by decide +kernel
theorem dX12_isTaken_7 : decode cX12_isTaken 7 = .ok (.iconst 0, 1) := by decide +kernel
theorem dX12_isTaken_8 : decode cX12_isTaken 8 = .ok (.istore_n 3, 1) := by decide +kernel
theorem dX12_isTaken_9 : decode cX12_isTaken 9 = .ok (.iload_n 3, 1) := by decide +kernel
theorem dX12_isTaken_10 : decode cX12_isTaken 10 = .ok (.iload_n 2, 1) := by decide +kernel
theorem dX12_isTaken_11 : decode cX12_isTaken 11 = .ok (.iadd, 1) := by decide +kernel
theorem dX12_isTaken_12 : decode cX12_isTaken 12 = .ok (.iconst 1, 1) := by decide +kernel
theorem dX12_isTaken_13 : decode cX12_isTaken 13 = .ok (.iadd, 1) := by decide +kernel
theorem dX12_isTaken_14 : decode cX12_isTaken 14 = .ok (.ldc_w 338, 3) := by decide +kernel
theorem dX12_isTaken_17 : decode cX12_isTaken 17 = .ok (.invokevirtual 309, 3) := by decide +kernel
theorem dX12_isTaken_20 : decode cX12_isTaken 20 = .ok (.if_icmp .ge 103, 3) := by decide +kernel
theorem dX12_isTaken_23 : decode cX12_isTaken 23 = .ok (.ldc_w 338, 3) := by decide +kernel
theorem dX12_isTaken_26 : decode cX12_isTaken 26 = .ok (.iload_n 3, 1) := by decide +kernel
theorem dX12_isTaken_27 : decode cX12_isTaken 27 = .ok (.invokevirtual 314, 3) := by decide +kernel
theorem dX12_isTaken_30 : decode cX12_isTaken 30 = .ok (.bipush 32, 2) := by decide +kernel
theorem dX12_isTaken_32 : decode cX12_isTaken 32 = .ok (.if_icmp .ne 85, 3) := by decide +kernel
theorem dX12_isTaken_35 : decode cX12_isTaken 35 = .ok (.ldc_w 338, 3) := by decide +kernel
theorem dX12_isTaken_38 : decode cX12_isTaken 38 = .ok (.iload_n 3, 1) := by decide +kernel
theorem dX12_isTaken_39 : decode cX12_isTaken 39 = .ok (.iload_n 2, 1) := by decide +kernel
theorem dX12_isTaken_40 : decode cX12_isTaken 40 = .ok (.iadd, 1) := by decide +kernel
theorem dX12_isTaken_41 : decode cX12_isTaken 41 = .ok (.iconst 1, 1) := by decide +kernel
theorem dX12_isTaken_42 : decode cX12_isTaken 42 = .ok (.iadd, 1) := by decide +kernel
theorem dX12_isTaken_43 : decode cX12_isTaken 43 = .ok (.invokevirtual 314, 3) := by decide +kernel
theorem dX12_isTaken_46 : decode cX12_isTaken 46 = .ok (.bipush 32, 2) := by decide +kernel
theorem dX12_isTaken_48 : decode cX12_isTaken 48 = .ok (.if_icmp .ne 69, 3) := by decide +kernel
theorem dX12_isTaken_51 : decode cX12_isTaken 51 = .ok (.iconst 1, 1) := by decide +kernel
theorem dX12_isTaken_52 : decode cX12_isTaken 52 = .ok (.istore 4, 2) := by decide +kernel
theorem dX12_isTaken_54 : decode cX12_isTaken 54 = .ok (.iconst 0, 1) := by decide +kernel
theorem dX12_isTaken_55 : decode cX12_isTaken 55 = .ok (.istore 5, 2) := by decide +kernel
theorem dX12_isTaken_57 : decode cX12_isTaken 57 = .ok (.iload 5, 2) := by decide +kernel
theorem dX12_isTaken_59 : decode cX12_isTaken 59 = .ok (.iload_n 2, 1) := by decide +kernel
theorem dX12_isTaken_60 : decode cX12_isTaken 60 = .ok (.if_icmp .ge 50, 3) := by decide +kernel
theorem dX12_isTaken_63 : decode cX12_isTaken 63 = .ok (.iload 4, 2) := by decide +kernel
theorem dX12_isTaken_65 : decode cX12_isTaken 65 = .ok (.ifCond .eq 45, 3) := by decide +kernel
theorem dX12_isTaken_68 : decode cX12_isTaken 68 = .ok (.aload_n 0, 1) := by decide +kernel
theorem dX12_isTaken_69 : decode cX12_isTaken 69 = .ok (.getfield 13, 3) := by decide +kernel
theorem dX12_isTaken_72 : decode cX12_isTaken 72 = .ok (.aload_n 0, 1) := by decide +kernel
theorem dX12_isTaken_73 : decode cX12_isTaken 73 = .ok (.getfield 43, 3) := by decide +kernel
theorem dX12_isTaken_76 : decode cX12_isTaken 76 = .ok (.iload_n 1, 1) := by decide +kernel
theorem dX12_isTaken_77 : decode cX12_isTaken 77 = .ok (.iaload, 1) := by decide +kernel
theorem dX12_isTaken_78 : decode cX12_isTaken 78 = .ok (.iload 5, 2) := by decide +kernel
theorem dX12_isTaken_80 : decode cX12_isTaken 80 = .ok (.iadd, 1) := by decide +kernel
theorem dX12_isTaken_81 : decode cX12_isTaken 81 = .ok (.baload, 1) := by decide +kernel
theorem dX12_isTaken_82 : decode cX12_isTaken 82 = .ok (.ldc_w 338, 3) := by decide +kernel
theorem dX12_isTaken_85 : decode cX12_isTaken 85 = .ok (.iload_n 3, 1) := by decide +kernel
theorem dX12_isTaken_86 : decode cX12_isTaken 86 = .ok (.iconst 1, 1) := by decide +kernel
theorem dX12_isTaken_87 : decode cX12_isTaken 87 = .ok (.iadd, 1) := by decide +kernel
theorem dX12_isTaken_88 : decode cX12_isTaken 88 = .ok (.iload 5, 2) := by decide +kernel
theorem dX12_isTaken_90 : decode cX12_isTaken 90 = .ok (.iadd, 1) := by decide +kernel
theorem dX12_isTaken_91 : decode cX12_isTaken 91 = .ok (.invokevirtual 314, 3) := by decide +kernel
theorem dX12_isTaken_94 : decode cX12_isTaken 94 = .ok (.if_icmp .ne 7, 3) := by decide +kernel
theorem dX12_isTaken_97 : decode cX12_isTaken 97 = .ok (.iconst 1, 1) := by decide +kernel
theorem dX12_isTaken_98 : decode cX12_isTaken 98 = .ok (.goto 4, 3) := by decide +kernel
theorem dX12_isTaken_101 : decode cX12_isTaken 101 = .ok (.iconst 0, 1) := by decide +kernel
theorem dX12_isTaken_102 : decode cX12_isTaken 102 = .ok (.istore 4, 2) := by decide +kernel
theorem dX12_isTaken_104 : decode cX12_isTaken 104 = .ok (.iinc 5 1, 3) := by decide +kernel
theorem dX12_isTaken_107 : decode cX12_isTaken 107 = .ok (.goto (-50), 3) := by decide +kernel
theorem dX12_isTaken_110 : decode cX12_isTaken 110 = .ok (.iload 4, 2) := by decide +kernel
theorem dX12_isTaken_112 : decode cX12_isTaken 112 = .ok (.ifCond .eq 5, 3) := by decide +kernel
theorem dX12_isTaken_115 : decode cX12_isTaken 115 = .ok (.iconst 1, 1) := by decide +kernel
theorem dX12_isTaken_116 : decode cX12_isTaken 116 = .ok (.ireturn, 1) := by decide +kernel
theorem dX12_isTaken_117 : decode cX12_isTaken 117 = .ok (.iinc 3 1, 3) := by decide +kernel
theorem dX12_isTaken_120 : decode cX12_isTaken 120 = .ok (.goto (-111), 3) := by decide +kernel
theorem dX12_isTaken_123 : decode cX12_isTaken 123 = .ok (.iconst 0, 1) := by decide +kernel
theorem dX12_isTaken_124 : decode cX12_isTaken 124 = .ok (.ireturn, 1) := by decide +kernel
def m_isTaken_b117 (F : Nat) (cs : RS) (rc9 : Int32 → Int32 → Int32 → Option Int32) (u1 : Int32) (u2 : Int32) (u3 : Int32) : Option Int32 := rc9 u1 u2 (u3 + 1)
def m_isTaken_b110 (F : Nat) (cs : RS) (rc9 : Int32 → Int32 → Int32 → Option Int32) (u1 : Int32) (u2 : Int32) (u3 : Int32) (u4 : Int32) : Option Int32 := if u4 = 0 then (m_isTaken_b117 F cs rc9 u1 u2 u3) else (some 1)
def m_isTaken_b102 (F : Nat) (cs : RS) (rc9 : Int32 → Int32 → Int32 → Option Int32) (rc57 : Int32 → Int32 → Int32 → Int32 → Int32 → Option Int32) (u1 : Int32) (u2 : Int32) (u3 : Int32) (u5 : Int32) (y0 : Int32) : Option Int32 := rc57 u1 u2 u3 y0 (u5 + 1)
def m_isTaken_L57 (F : Nat) (cs : RS) (rc9 : Int32 → Int32 → Int32 → Option Int32) : Nat → Int32 → Int32 → Int32 → Int32 → Int32 → Option Int32
  | 0, _, _, _, _, _ => none
  | lf_57 + 1, u1, u2, u3, u4, u5 => if u2 ≤ u5 then (m_isTaken_b110 F cs rc9 u1 u2 u3 u4) else (if u4 = 0 then (m_isTaken_b110 F cs rc9 u1 u2 u3 u4) else (Option.bind (rdI (cs.2.2.1 15) 2001 u1) fun v_4 => Option.bind (rdI (cs.2.2.1 2) 2000 (v_4 + u5)) fun v_5 => Option.bind (chA 15 ((u3 + 1) + u5)) fun v_6 => if v_5 = v_6 then (m_isTaken_b102 F cs rc9 (m_isTaken_L57 F cs rc9 lf_57) u1 u2 u3 u5 1) else (m_isTaken_b102 F cs rc9 (m_isTaken_L57 F cs rc9 lf_57) u1 u2 u3 u5 0)))
def m_isTaken_L9 (F : Nat) (cs : RS) : Nat → Int32 → Int32 → Int32 → Option Int32
  | 0, _, _, _ => none
  | lf_9 + 1, u1, u2, u3 => if (nI (soB 15).length) ≤ ((u3 + u2) + 1) then (some 0) else (Option.bind (chA 15 u3) fun v_10 => if v_10 = 32 then (Option.bind (chA 15 ((u3 + u2) + 1)) fun v_12 => if v_12 = 32 then (m_isTaken_L57 F cs (m_isTaken_L9 F cs lf_9) F u1 u2 u3 1 0) else (m_isTaken_b117 F cs (m_isTaken_L9 F cs lf_9) u1 u2 u3)) else (m_isTaken_b117 F cs (m_isTaken_L9 F cs lf_9) u1 u2 u3))
def m_isTaken (F : Nat) (cs : RS) (x1 : Int32) : Option Int32 := Option.bind (rdI (cs.2.2.1 16) 2001 x1) fun v_14 => m_isTaken_L9 F cs F x1 v_14 0
set_option maxHeartbeats 4000000 in
set_option maxRecDepth 100000 in
theorem s_isTaken (l : Launch) (dC : Nat → ClassId) (dI : Nat → Nat → Nat) (cB cI cJ cZ : ClassId) (h0 : Nat) (a : Nat → Nat) (K V : Nat → Nat) (fz : Value) (F : Nat) (cs : RS) (x1 : Int32) (r9 : Int32) (hf : m_isTaken F cs x1 = some r9) : okI l dC dI cB cI cJ cZ h0 a K V fz yX12_isTaken (wsOf yX12_isTaken cX12_isTaken 6 (some .boolean)) (6) [.ref h0, .int x1] cs cs r9 := by
  intro sz
  refine Met.ofW (cc := cX12_isTaken) (maxL := 6) (ret := (some .boolean)) (by decide) rfl ?_
  intro p e s m args below meth c s₁ B hml hv
  obtain ⟨rfl, hsz, hP, hK, hD0, hZ⟩ := hv
  have hx := B.exec
  have hb := B.bytes
  have hr := B.returns
  have hts := atoms_spec (ws := (wsOf yX12_isTaken cX12_isTaken 6 (some .boolean))) B.pre
  have hown : s.vm.findClass RX12 = some m.cls := findClass_of_methodNamed B.named
  have hlocks := B.notSynchronized
  subst hsz
  have hD := hD0.self (sz := s.heap.size)
  generalize hAe : va_A (mW cB cI cJ cZ h0 a cs) s.heap.size = A at hD hZ ⊢
  have hA : ∀ q : Nat, s.heap.size ≤ q → A q := fun q h => by rw [← hAe]; exact Or.inr h
  have hS : va_S A s.heap s.heap [] := va_S.rf
  have hl := lv_entry ([.ref h0, .int x1]) (n := 6) (Nat.le_of_ble_eq_true rfl)
  rw [lg_entry_eq]
  generalize (lg_sl ([.ref h0, .int x1]) ++ List.replicate (6 - (lg_sl ([.ref h0, .int x1])).length) Slot.unset).toArray = ls at hl ⊢
  have hl : lv_has ls 6 [(0, .ref h0), (1, .int x1)] := hl
  have L_9 : ∀ (lf_9 : Nat), ∀ (u1 : Int32) (u2 : Int32) (u3 : Int32), m_isTaken_L9 F cs lf_9 u1 u2 u3 = some r9 → ∀ (H : Heap) (locs : List Loc) (ls : Array Slot), va_P (dC, dI) vwCl (mW cB cI cJ cZ h0 a cs) H → va_D A (mW cB cI cJ cZ h0 a cs) → va_S A s.heap H locs → lv_has ls 6 [(0, .ref h0), (1, .int u1), (2, .int u2), (3, .int u3)] → W p l e (headSpec (wsOf yX12_isTaken cX12_isTaken 6 (some .boolean)) ({ frames := 6, cells := 0, slots := 0, locals := 60 * (6) } : Room)).room s m ([.ref h0, .int x1] : List Value).toArray below meth c H locs 0 0 (MQ below (va_Qi (fun (x : Int32) (_ : Unit) => x = r9) (fun _ t_ => va_P (dC, dI) vwCl (mW cB cI cJ cZ h0 a cs) t_.heap ∧ va_D A (mW cB cI cJ cZ h0 a cs)) A) ([.ref h0, .int x1] : List Value).toArray s 0 0 A) (F0 m 9 ls []) := by
    intro lf_9
    induction lf_9 with
    | zero => intro u1 u2 u3 h; cases (show (none : Option Int32) = _ from h)
    | succ lf_9 ih_9 =>
      have B_117 : ∀ (u1 : Int32) (u2 : Int32) (u3 : Int32), m_isTaken_b117 F cs (m_isTaken_L9 F cs lf_9) u1 u2 u3 = some r9 → ∀ (H : Heap) (locs : List Loc) (ls : Array Slot), va_P (dC, dI) vwCl (mW cB cI cJ cZ h0 a cs) H → va_D A (mW cB cI cJ cZ h0 a cs) → va_S A s.heap H locs → lv_has ls 6 [(0, .ref h0), (1, .int u1), (2, .int u2), (3, .int u3)] → W p l e (headSpec (wsOf yX12_isTaken cX12_isTaken 6 (some .boolean)) ({ frames := 6, cells := 0, slots := 0, locals := 60 * (6) } : Room)).room s m ([.ref h0, .int x1] : List Value).toArray below meth c H locs 0 0 (MQ below (va_Qi (fun (x : Int32) (_ : Unit) => x = r9) (fun _ t_ => va_P (dC, dI) vwCl (mW cB cI cJ cZ h0 a cs) t_.heap ∧ va_D A (mW cB cI cJ cZ h0 a cs)) A) ([.ref h0, .int x1] : List Value).toArray s 0 0 A) (F0 m 117 ls []) := by
        intro u1 u2 u3 h H locs ls hP hD hS hl
        unfold m_isTaken_b117 at h
        refine lv_iinc (v := u3 + 1) (lv' := [(3, .int (u3 + 1)), (0, .ref h0), (1, .int u1), (2, .int u2)]) hx hb dX12_isTaken_117 hl (k := 3) rfl rfl (by decide) rfl (fun ls hl => ?_)
        refine lv_goto (tgt := 9) hx hb dX12_isTaken_120 (by decide) ?_
        exact ih_9 u1 u2 (u3 + 1) h _ _ _ hP hD hS (lv_sub hl [1, 2, 3, 0] rfl)
      have B_110 : ∀ (u1 : Int32) (u2 : Int32) (u3 : Int32) (u4 : Int32), m_isTaken_b110 F cs (m_isTaken_L9 F cs lf_9) u1 u2 u3 u4 = some r9 → ∀ (H : Heap) (locs : List Loc) (ls : Array Slot), va_P (dC, dI) vwCl (mW cB cI cJ cZ h0 a cs) H → va_D A (mW cB cI cJ cZ h0 a cs) → va_S A s.heap H locs → lv_has ls 6 [(0, .ref h0), (1, .int u1), (2, .int u2), (3, .int u3), (4, .int u4)] → W p l e (headSpec (wsOf yX12_isTaken cX12_isTaken 6 (some .boolean)) ({ frames := 6, cells := 0, slots := 0, locals := 60 * (6) } : Room)).room s m ([.ref h0, .int x1] : List Value).toArray below meth c H locs 0 0 (MQ below (va_Qi (fun (x : Int32) (_ : Unit) => x = r9) (fun _ t_ => va_P (dC, dI) vwCl (mW cB cI cJ cZ h0 a cs) t_.heap ∧ va_D A (mW cB cI cJ cZ h0 a cs)) A) ([.ref h0, .int x1] : List Value).toArray s 0 0 A) (F0 m 110 ls []) := by
        intro u1 u2 u3 u4 h H locs ls hP hD hS hl
        unfold m_isTaken_b110 at h
        refine lv_iload hx hb dX12_isTaken_110 (lv_at hl 4 rfl) ?_
        refine lv_if_eq (tgt := 117) hx hb dX12_isTaken_112 (by decide) (fun c_1 => ?_) (fun c_1 => ?_)
        · skip
          replace h := (if_pos c_1).symm.trans h
          exact B_117 u1 u2 u3 h _ _ _ hP hD hS (lv_sub hl [0, 1, 2, 3] rfl)
        · skip
          replace h := (if_neg c_1).symm.trans h
          refine lv_iconst (v := 1) hx hb dX12_isTaken_115 (by decide) ?_
          have e2 := Option.some.inj h
          exact W.zret (v := 1) hx hb hr (nzN (Or.inr rfl)) (fun t_ ht hW => ⟨⟨1, (), rfl, e2, by rw [ht]; exact hP, hD⟩, hS.F ht⟩) hS.2.2 dX12_isTaken_116
      have L_57 : ∀ (lf_57 : Nat), ∀ (u1 : Int32) (u2 : Int32) (u3 : Int32) (u4 : Int32) (u5 : Int32), m_isTaken_L57 F cs (m_isTaken_L9 F cs lf_9) lf_57 u1 u2 u3 u4 u5 = some r9 → ∀ (H : Heap) (locs : List Loc) (ls : Array Slot), va_P (dC, dI) vwCl (mW cB cI cJ cZ h0 a cs) H → va_D A (mW cB cI cJ cZ h0 a cs) → va_S A s.heap H locs → lv_has ls 6 [(0, .ref h0), (1, .int u1), (2, .int u2), (3, .int u3), (4, .int u4), (5, .int u5)] → W p l e (headSpec (wsOf yX12_isTaken cX12_isTaken 6 (some .boolean)) ({ frames := 6, cells := 0, slots := 0, locals := 60 * (6) } : Room)).room s m ([.ref h0, .int x1] : List Value).toArray below meth c H locs 0 0 (MQ below (va_Qi (fun (x : Int32) (_ : Unit) => x = r9) (fun _ t_ => va_P (dC, dI) vwCl (mW cB cI cJ cZ h0 a cs) t_.heap ∧ va_D A (mW cB cI cJ cZ h0 a cs)) A) ([.ref h0, .int x1] : List Value).toArray s 0 0 A) (F0 m 57 ls []) := by
        intro lf_57
        induction lf_57 with
        | zero => intro u1 u2 u3 u4 u5 h; cases (show (none : Option Int32) = _ from h)
        | succ lf_57 ih_57 =>
          have B_102 : ∀ (u1 : Int32) (u2 : Int32) (u3 : Int32) (u5 : Int32) (y0 : Int32), m_isTaken_b102 F cs (m_isTaken_L9 F cs lf_9) (m_isTaken_L57 F cs (m_isTaken_L9 F cs lf_9) lf_57) u1 u2 u3 u5 y0 = some r9 → ∀ (H : Heap) (locs : List Loc) (ls : Array Slot), va_P (dC, dI) vwCl (mW cB cI cJ cZ h0 a cs) H → va_D A (mW cB cI cJ cZ h0 a cs) → va_S A s.heap H locs → lv_has ls 6 [(0, .ref h0), (1, .int u1), (2, .int u2), (3, .int u3), (5, .int u5)] → W p l e (headSpec (wsOf yX12_isTaken cX12_isTaken 6 (some .boolean)) ({ frames := 6, cells := 0, slots := 0, locals := 60 * (6) } : Room)).room s m ([.ref h0, .int x1] : List Value).toArray below meth c H locs 0 0 (MQ below (va_Qi (fun (x : Int32) (_ : Unit) => x = r9) (fun _ t_ => va_P (dC, dI) vwCl (mW cB cI cJ cZ h0 a cs) t_.heap ∧ va_D A (mW cB cI cJ cZ h0 a cs)) A) ([.ref h0, .int x1] : List Value).toArray s 0 0 A) (F0 m 102 ls [.int y0]) := by
            intro u1 u2 u3 u5 y0 h H locs ls hP hD hS hl
            unfold m_isTaken_b102 at h
            refine lv_istore (lv' := [(4, .int y0), (0, .ref h0), (1, .int u1), (2, .int u2), (3, .int u3), (5, .int u5)]) hx hb dX12_isTaken_102 hl (by decide) rfl (fun ls hl => ?_)
            refine lv_iinc (v := u5 + 1) (lv' := [(5, .int (u5 + 1)), (4, .int y0), (0, .ref h0), (1, .int u1), (2, .int u2), (3, .int u3)]) hx hb dX12_isTaken_104 hl (k := 5) rfl rfl (by decide) rfl (fun ls hl => ?_)
            refine lv_goto (tgt := 57) hx hb dX12_isTaken_107 (by decide) ?_
            exact ih_57 u1 u2 u3 y0 (u5 + 1) h _ _ _ hP hD hS (lv_sub hl [2, 3, 4, 5, 1, 0] rfl)
          intro u1 u2 u3 u4 u5 h H locs ls hP hD hS hl
          rw [m_isTaken_L57] at h
          refine lv_iload hx hb dX12_isTaken_57 (lv_at hl 5 rfl) ?_
          refine lv_iload_n hx hb dX12_isTaken_59 rfl (lv_at hl 2 rfl) ?_
          refine lv_icmp_ge (tgt := 110) hx hb dX12_isTaken_60 (by decide) (fun c_2 => ?_) (fun c_2 => ?_)
          · skip
            replace h := (if_pos c_2).symm.trans h
            exact B_110 u1 u2 u3 u4 h _ _ _ hP hD hS (lv_sub hl [0, 1, 2, 3, 4] rfl)
          · skip
            replace h := (if_neg c_2).symm.trans h
            refine lv_iload hx hb dX12_isTaken_63 (lv_at hl 4 rfl) ?_
            refine lv_if_eq (tgt := 110) hx hb dX12_isTaken_65 (by decide) (fun c_3 => ?_) (fun c_3 => ?_)
            · skip
              replace h := (if_pos c_3).symm.trans h
              exact B_110 u1 u2 u3 u4 h _ _ _ hP hD hS (lv_sub hl [0, 1, 2, 3, 4] rfl)
            · skip
              replace h := (if_neg c_3).symm.trans h
              refine lv_aload_n hx hb dX12_isTaken_68 rfl (lv_at hl 0 rfl) ?_
              refine fg_2 hx hb hts hown hK hP dX12_isTaken_69 ?_
              refine lv_aload_n hx hb dX12_isTaken_72 rfl (lv_at hl 0 rfl) ?_
              refine fg_15 hx hb hts hown hK hP dX12_isTaken_73 ?_
              refine lv_iload_n hx hb dX12_isTaken_76 rfl (lv_at hl 1 rfl) ?_
              obtain ⟨v_4, hv_4, h⟩ := ob h
              refine ag_15 hx hb hK hP hv_4 dX12_isTaken_77 ?_
              refine lv_iload hx hb dX12_isTaken_78 (lv_at hl 5 rfl) ?_
              refine lv_iadd hx hb dX12_isTaken_80 ?_
              obtain ⟨v_5, hv_5, h⟩ := ob h
              refine ag_2 hx hb hK hP hv_5 dX12_isTaken_81 ?_
              refine va_ldcSW (own := RX12) (index := 338) (tx := soT 15) (q := K 15) hx hb hown (hZ.ref 15 (by decide)) dX12_isTaken_82 ?_
              refine lv_iload_n hx hb dX12_isTaken_85 rfl (lv_at hl 3 rfl) ?_
              refine lv_iconst (v := 1) hx hb dX12_isTaken_86 (by decide) ?_
              refine lv_iadd hx hb dX12_isTaken_87 ?_
              refine lv_iload hx hb dX12_isTaken_88 (lv_at hl 5 rfl) ?_
              refine lv_iadd hx hb dX12_isTaken_90 ?_
              obtain ⟨v_6, hv_6, h⟩ := ob h
              refine strChar hx hb hml hts hown hK hP hD hS hA hZ (by decide) (Nat.zero_le _) (Nat.zero_le _) hv_6 hl.1 (Nat.le_of_ble_eq_true rfl) (Nat.le_of_ble_eq_true rfl) (Nat.le_of_ble_eq_true rfl) dX12_isTaken_91 (fun H locs hP hD hS => ?_)
              refine lv_icmp_ne (tgt := 101) hx hb dX12_isTaken_94 (by decide) (fun c_7 => ?_) (fun c_7 => ?_)
              · skip
                replace h := (if_neg c_7).symm.trans h
                refine lv_iconst (v := 0) hx hb dX12_isTaken_101 (by decide) ?_
                exact B_102 u1 u2 u3 u5 0 h _ _ _ hP hD hS (lv_sub hl [0, 1, 2, 3, 5] rfl)
              · skip
                replace h := (if_pos c_7).symm.trans h
                refine lv_iconst (v := 1) hx hb dX12_isTaken_97 (by decide) ?_
                refine lv_goto (tgt := 102) hx hb dX12_isTaken_98 (by decide) ?_
                exact B_102 u1 u2 u3 u5 1 h _ _ _ hP hD hS (lv_sub hl [0, 1, 2, 3, 5] rfl)
      intro u1 u2 u3 h H locs ls hP hD hS hl
      rw [m_isTaken_L9] at h
      refine lv_iload_n hx hb dX12_isTaken_9 rfl (lv_at hl 3 rfl) ?_
      refine lv_iload_n hx hb dX12_isTaken_10 rfl (lv_at hl 2 rfl) ?_
      refine lv_iadd hx hb dX12_isTaken_11 ?_
      refine lv_iconst (v := 1) hx hb dX12_isTaken_12 (by decide) ?_
      refine lv_iadd hx hb dX12_isTaken_13 ?_
      refine va_ldcSW (own := RX12) (index := 338) (tx := soT 15) (q := K 15) hx hb hown (hZ.ref 15 (by decide)) dX12_isTaken_14 ?_
      refine strLen hx hb hml hts hown hK hP hD hS hA hZ (by decide) (Nat.zero_le _) (Nat.zero_le _) hl.1 (Nat.le_of_ble_eq_true rfl) (Nat.le_of_ble_eq_true rfl) (Nat.le_of_ble_eq_true rfl) dX12_isTaken_17 (fun H locs hP hD hS => ?_)
      refine lv_icmp_ge (tgt := 123) hx hb dX12_isTaken_20 (by decide) (fun c_9 => ?_) (fun c_9 => ?_)
      · skip
        replace h := (if_pos c_9).symm.trans h
        refine lv_iconst (v := 0) hx hb dX12_isTaken_123 (by decide) ?_
        have e2 := Option.some.inj h
        exact W.zret (v := 0) hx hb hr (nzN (Or.inl rfl)) (fun t_ ht hW => ⟨⟨0, (), rfl, e2, by rw [ht]; exact hP, hD⟩, hS.F ht⟩) hS.2.2 dX12_isTaken_124
      · skip
        replace h := (if_neg c_9).symm.trans h
        refine va_ldcSW (own := RX12) (index := 338) (tx := soT 15) (q := K 15) hx hb hown (hZ.ref 15 (by decide)) dX12_isTaken_23 ?_
        refine lv_iload_n hx hb dX12_isTaken_26 rfl (lv_at hl 3 rfl) ?_
        obtain ⟨v_10, hv_10, h⟩ := ob h
        refine strChar hx hb hml hts hown hK hP hD hS hA hZ (by decide) (Nat.zero_le _) (Nat.zero_le _) hv_10 hl.1 (Nat.le_of_ble_eq_true rfl) (Nat.le_of_ble_eq_true rfl) (Nat.le_of_ble_eq_true rfl) dX12_isTaken_27 (fun H locs hP hD hS => ?_)
        refine lv_bipush (v := 32) hx hb dX12_isTaken_30 (by decide) ?_
        refine lv_icmp_ne (tgt := 117) hx hb dX12_isTaken_32 (by decide) (fun c_11 => ?_) (fun c_11 => ?_)
        · skip
          replace h := (if_neg c_11).symm.trans h
          exact B_117 u1 u2 u3 h _ _ _ hP hD hS (lv_sub hl [0, 1, 2, 3] rfl)
        · skip
          replace h := (if_pos c_11).symm.trans h
          refine va_ldcSW (own := RX12) (index := 338) (tx := soT 15) (q := K 15) hx hb hown (hZ.ref 15 (by decide)) dX12_isTaken_35 ?_
          refine lv_iload_n hx hb dX12_isTaken_38 rfl (lv_at hl 3 rfl) ?_
          refine lv_iload_n hx hb dX12_isTaken_39 rfl (lv_at hl 2 rfl) ?_
          refine lv_iadd hx hb dX12_isTaken_40 ?_
          refine lv_iconst (v := 1) hx hb dX12_isTaken_41 (by decide) ?_
          refine lv_iadd hx hb dX12_isTaken_42 ?_
          obtain ⟨v_12, hv_12, h⟩ := ob h
          refine strChar hx hb hml hts hown hK hP hD hS hA hZ (by decide) (Nat.zero_le _) (Nat.zero_le _) hv_12 hl.1 (Nat.le_of_ble_eq_true rfl) (Nat.le_of_ble_eq_true rfl) (Nat.le_of_ble_eq_true rfl) dX12_isTaken_43 (fun H locs hP hD hS => ?_)
          refine lv_bipush (v := 32) hx hb dX12_isTaken_46 (by decide) ?_
          refine lv_icmp_ne (tgt := 117) hx hb dX12_isTaken_48 (by decide) (fun c_13 => ?_) (fun c_13 => ?_)
          · skip
            replace h := (if_neg c_13).symm.trans h
            exact B_117 u1 u2 u3 h _ _ _ hP hD hS (lv_sub hl [0, 1, 2, 3] rfl)
          · skip
            replace h := (if_pos c_13).symm.trans h
            refine lv_iconst (v := 1) hx hb dX12_isTaken_51 (by decide) ?_
            refine lv_istore (lv' := [(4, .int 1), (0, .ref h0), (1, .int u1), (2, .int u2), (3, .int u3)]) hx hb dX12_isTaken_52 hl (by decide) rfl (fun ls hl => ?_)
            refine lv_iconst (v := 0) hx hb dX12_isTaken_54 (by decide) ?_
            refine lv_istore (lv' := [(5, .int 0), (4, .int 1), (0, .ref h0), (1, .int u1), (2, .int u2), (3, .int u3)]) hx hb dX12_isTaken_55 hl (by decide) rfl (fun ls hl => ?_)
            exact L_57 F u1 u2 u3 1 0 h _ _ _ hP hD hS (lv_sub hl [2, 3, 4, 5, 1, 0] rfl)
  have h := hf
  unfold m_isTaken at h
  refine lv_aload_n hx hb dX12_isTaken_0 rfl (lv_at hl 0 rfl) ?_
  refine fg_16 hx hb hts hown hK hP dX12_isTaken_1 ?_
  refine lv_iload_n hx hb dX12_isTaken_4 rfl (lv_at hl 1 rfl) ?_
  obtain ⟨v_14, hv_14, h⟩ := ob h
  refine ag_16 hx hb hK hP hv_14 dX12_isTaken_5 ?_
  refine lv_istore_n (lv' := [(2, .int v_14), (0, .ref h0), (1, .int x1)]) hx hb dX12_isTaken_6 rfl hl (by decide) rfl (fun ls hl => ?_)
  refine lv_iconst (v := 0) hx hb dX12_isTaken_7 (by decide) ?_
  refine lv_istore_n (lv' := [(3, .int 0), (2, .int v_14), (0, .ref h0), (1, .int x1)]) hx hb dX12_isTaken_8 rfl hl (by decide) rfl (fun ls hl => ?_)
  exact L_9 F x1 v_14 0 h _ _ _ hP hD hS (lv_sub hl [2, 3, 1, 0] rfl)
theorem cw_isTaken {R : Room} {s : State} {args : Array Value} {y0 : MethodName} {c0 : ByteArray} {n0 : Nat} {r0 : Option FieldType} (hts : ∀ w ∈ wsOf y0 c0 n0 r0, w.before args s = true) {fr : Nat} (h1 : fr + 1 ≤ R.frames) (h2 : 8 + (6 + 11) + 60 * fr ≤ R.locals) : CallW R s args RX12 RX12 340 yX12_isTaken cX12_isTaken 6 (some .boolean) (wsOf yX12_isTaken cX12_isTaken 6 (some .boolean)) ({ frames := fr, cells := 0, slots := 0, locals := 60 * fr } : Room) 0 0 1 := cwV 1 hts (gd_all (in_V kw_2291 kw_2293 kw_143 kw_191 kc_X12_isTaken)) rfl rfl rfl (by decide +kernel) ⟨h1, h2⟩
theorem dX12_isName_0 : decode cX12_isName 0 = .ok (.aload_n 0, 1) := by decide +kernel
theorem dX12_isName_1 : decode cX12_isName 1 = .ok (.getfield 292, 3) := by decide +kernel
theorem dX12_isName_4 : decode cX12_isName 4 = .ok (.ifCond .eq 31, 3) := by decide +kernel
theorem dX12_isName_7 : decode cX12_isName 7 = .ok (.aload_n 0, 1) := by decide +kernel
theorem dX12_isName_8 : decode cX12_isName 8 = .ok (.getfield 40, 3) := by decide +kernel
theorem dX12_isName_11 : decode cX12_isName 11 = .ok (.aload_n 0, 1) := by decide +kernel
theorem dX12_isName_12 : decode cX12_isName 12 = .ok (.getfield 302, 3) := by decide +kernel
theorem dX12_isName_15 : decode cX12_isName 15 = .ok (.iaload, 1) := by decide +kernel
theorem dX12_isName_16 : decode cX12_isName 16 = .ok (.iconst 1, 1) := by decide +kernel
theorem dX12_isName_17 : decode cX12_isName 17 = .ok (.if_icmp .ne 18, 3) := by decide +kernel
theorem dX12_isName_20 : decode cX12_isName 20 = .ok (.aload_n 0, 1) := by decide +kernel
theorem dX12_isName_21 : decode cX12_isName 21 = .ok (.aload_n 0, 1) := by decide +kernel
theorem dX12_isName_22 : decode cX12_isName 22 = .ok (.getfield 302, 3) := by decide +kernel
theorem dX12_isName_25 : decode cX12_isName 25 = .ok (.invokevirtual 340, 3) := by decide +kernel
theorem dX12_isName_28 : decode cX12_isName 28 = .ok (.ifCond .ne 7, 3) := by decide +kernel
theorem dX12_isName_31 : decode cX12_isName 31 = .ok (.iconst 1, 1) := by decide +kernel
theorem dX12_isName_32 : decode cX12_isName 32 = .ok (.goto 4, 3) := by decide +kernel
theorem dX12_isName_35 : decode cX12_isName 35 = .ok (.iconst 0, 1) := by decide +kernel
theorem dX12_isName_36 : decode cX12_isName 36 = .ok (.ireturn, 1) := by decide +kernel
def m_isName_b36 (F : Nat) (cs : RS) (y0 : Int32) : Option Int32 := Option.bind (ckZ y0) fun _ => some y0
def m_isName_b35 (F : Nat) (cs : RS) : Option Int32 := m_isName_b36 F cs 0
def m_isName (F : Nat) (cs : RS) : Option Int32 := if (cs.1 21) = 0 then (m_isName_b35 F cs ) else (Option.bind (rdI (cs.2.2.1 14) 2001 (cs.1 18)) fun v_3 => if v_3 = 1 then (Option.bind (m_isTaken F cs (cs.1 18)) fun v_5 => if v_5 = 0 then (m_isName_b36 F cs 1) else (m_isName_b35 F cs )) else (m_isName_b35 F cs ))
set_option maxHeartbeats 4000000 in
set_option maxRecDepth 100000 in
theorem s_isName (l : Launch) (dC : Nat → ClassId) (dI : Nat → Nat → Nat) (cB cI cJ cZ : ClassId) (h0 : Nat) (a : Nat → Nat) (K V : Nat → Nat) (fz : Value) (F : Nat) (cs : RS) (r9 : Int32) (hf : m_isName F cs = some r9) : okI l dC dI cB cI cJ cZ h0 a K V fz yX12_isName (wsOf yX12_isName cX12_isName 1 (some .boolean)) (7) [.ref h0] cs cs r9 := by
  intro sz
  refine Met.ofW (cc := cX12_isName) (maxL := 1) (ret := (some .boolean)) (by decide) rfl ?_
  intro p e s m args below meth c s₁ B hml hv
  obtain ⟨rfl, hsz, hP, hK, hD0, hZ⟩ := hv
  have hx := B.exec
  have hb := B.bytes
  have hr := B.returns
  have hts := atoms_spec (ws := (wsOf yX12_isName cX12_isName 1 (some .boolean))) B.pre
  have hown : s.vm.findClass RX12 = some m.cls := findClass_of_methodNamed B.named
  have hlocks := B.notSynchronized
  subst hsz
  have hD := hD0.self (sz := s.heap.size)
  generalize hAe : va_A (mW cB cI cJ cZ h0 a cs) s.heap.size = A at hD hZ ⊢
  have hA : ∀ q : Nat, s.heap.size ≤ q → A q := fun q h => by rw [← hAe]; exact Or.inr h
  have hS : va_S A s.heap s.heap [] := va_S.rf
  have hl := lv_entry ([.ref h0]) (n := 1) (Nat.le_of_ble_eq_true rfl)
  rw [lg_entry_eq]
  generalize (lg_sl ([.ref h0]) ++ List.replicate (1 - (lg_sl ([.ref h0])).length) Slot.unset).toArray = ls at hl ⊢
  have hl : lv_has ls 1 [(0, .ref h0)] := hl
  have B_36 : ∀ (y0 : Int32), m_isName_b36 F cs y0 = some r9 → ∀ (H : Heap) (locs : List Loc) (ls : Array Slot), va_P (dC, dI) vwCl (mW cB cI cJ cZ h0 a cs) H → va_D A (mW cB cI cJ cZ h0 a cs) → va_S A s.heap H locs → lv_has ls 1 [] → W p l e (headSpec (wsOf yX12_isName cX12_isName 1 (some .boolean)) ({ frames := 7, cells := 0, slots := 0, locals := 60 * (7) } : Room)).room s m ([.ref h0] : List Value).toArray below meth c H locs 0 0 (MQ below (va_Qi (fun (x : Int32) (_ : Unit) => x = r9) (fun _ t_ => va_P (dC, dI) vwCl (mW cB cI cJ cZ h0 a cs) t_.heap ∧ va_D A (mW cB cI cJ cZ h0 a cs)) A) ([.ref h0] : List Value).toArray s 0 0 A) (F0 m 36 ls [.int y0]) := by
    intro y0 h H locs ls hP hD hS hl
    unfold m_isName_b36 at h
    obtain ⟨w_1, hw_1, h⟩ := ob h
    have e2 := Option.some.inj h
    exact W.zret (v := y0) hx hb hr (nzN (ckZ_some hw_1)) (fun t_ ht hW => ⟨⟨y0, (), rfl, e2, by rw [ht]; exact hP, hD⟩, hS.F ht⟩) hS.2.2 dX12_isName_36
  have B_35 : m_isName_b35 F cs = some r9 → ∀ (H : Heap) (locs : List Loc) (ls : Array Slot), va_P (dC, dI) vwCl (mW cB cI cJ cZ h0 a cs) H → va_D A (mW cB cI cJ cZ h0 a cs) → va_S A s.heap H locs → lv_has ls 1 [] → W p l e (headSpec (wsOf yX12_isName cX12_isName 1 (some .boolean)) ({ frames := 7, cells := 0, slots := 0, locals := 60 * (7) } : Room)).room s m ([.ref h0] : List Value).toArray below meth c H locs 0 0 (MQ below (va_Qi (fun (x : Int32) (_ : Unit) => x = r9) (fun _ t_ => va_P (dC, dI) vwCl (mW cB cI cJ cZ h0 a cs) t_.heap ∧ va_D A (mW cB cI cJ cZ h0 a cs)) A) ([.ref h0] : List Value).toArray s 0 0 A) (F0 m 35 ls []) := by
    intro  h H locs ls hP hD hS hl
    unfold m_isName_b35 at h
    refine lv_iconst (v := 0) hx hb dX12_isName_35 (by decide) ?_
    exact B_36 0 h _ _ _ hP hD hS (lv_sub hl [] rfl)
  have h := hf
  unfold m_isName at h
  refine lv_aload_n hx hb dX12_isName_0 rfl (lv_at hl 0 rfl) ?_
  refine fg_21 hx hb hts hown hK hP dX12_isName_1 ?_
  refine lv_if_eq (tgt := 35) hx hb dX12_isName_4 (by decide) (fun c_2 => ?_) (fun c_2 => ?_)
  · skip
    replace h := (if_pos c_2).symm.trans h
    exact B_35  h _ _ _ hP hD hS (lv_sub hl [] rfl)
  · skip
    replace h := (if_neg c_2).symm.trans h
    refine lv_aload_n hx hb dX12_isName_7 rfl (lv_at hl 0 rfl) ?_
    refine fg_14 hx hb hts hown hK hP dX12_isName_8 ?_
    refine lv_aload_n hx hb dX12_isName_11 rfl (lv_at hl 0 rfl) ?_
    refine fg_18 hx hb hts hown hK hP dX12_isName_12 ?_
    obtain ⟨v_3, hv_3, h⟩ := ob h
    refine ag_14 hx hb hK hP hv_3 dX12_isName_15 ?_
    refine lv_iconst (v := 1) hx hb dX12_isName_16 (by decide) ?_
    refine lv_icmp_ne (tgt := 35) hx hb dX12_isName_17 (by decide) (fun c_4 => ?_) (fun c_4 => ?_)
    · skip
      replace h := (if_neg c_4).symm.trans h
      exact B_35  h _ _ _ hP hD hS (lv_sub hl [] rfl)
    · skip
      replace h := (if_pos c_4).symm.trans h
      refine lv_aload_n hx hb dX12_isName_20 rfl (lv_at hl 0 rfl) ?_
      refine lv_aload_n hx hb dX12_isName_21 rfl (lv_at hl 0 rfl) ?_
      refine fg_18 hx hb hts hown hK hP dX12_isName_22 ?_
      obtain ⟨v_5, hv_5, h⟩ := ob h
      refine calI (As := [.int (cs.1 18)]) hx hb hml hts hown hK hP hD hS hA hZ (s_isTaken l dC dI cB cI cJ cZ h0 a K V fz F cs (cs.1 18) v_5 hv_5) (cw_isTaken hts (fr := 6) (Nat.le_of_ble_eq_true rfl) (Nat.le_of_ble_eq_true rfl)) rfl hl.1 (Nat.le_of_ble_eq_true rfl) ⟨Nat.zero_le _, Nat.zero_le _⟩ dX12_isName_25 (fun H locs hP hD hS => ?_)
      refine lv_if_ne (tgt := 35) hx hb dX12_isName_28 (by decide) (fun c_6 => ?_) (fun c_6 => ?_)
      · skip
        replace h := (if_neg c_6).symm.trans h
        exact B_35  h _ _ _ hP hD hS (lv_sub hl [] rfl)
      · skip
        replace h := (if_pos c_6).symm.trans h
        refine lv_iconst (v := 1) hx hb dX12_isName_31 (by decide) ?_
        refine lv_goto (tgt := 36) hx hb dX12_isName_32 (by decide) ?_
        exact B_36 1 h _ _ _ hP hD hS (lv_sub hl [] rfl)
theorem cw_isName {R : Room} {s : State} {args : Array Value} {y0 : MethodName} {c0 : ByteArray} {n0 : Nat} {r0 : Option FieldType} (hts : ∀ w ∈ wsOf y0 c0 n0 r0, w.before args s = true) {fr : Nat} (h1 : fr + 1 ≤ R.frames) (h2 : 8 + (1 + 11) + 60 * fr ≤ R.locals) : CallW R s args RX12 RX12 343 yX12_isName cX12_isName 1 (some .boolean) (wsOf yX12_isName cX12_isName 1 (some .boolean)) ({ frames := fr, cells := 0, slots := 0, locals := 60 * fr } : Room) 0 0 0 := cwV 0 hts (gd_all (in_V kw_2365 kw_2367 kw_160 kw_191 kc_X12_isName)) rfl rfl rfl (by decide +kernel) ⟨h1, h2⟩
theorem dX12_name_0 : decode cX12_name 0 = .ok (.aload_n 0, 1) := by decide +kernel
theorem dX12_name_1 : decode cX12_name 1 = .ok (.invokevirtual 343, 3) := by decide +kernel
theorem dX12_name_4 : decode cX12_name 4 = .ok (.ifCond .ne 12, 3) := by decide +kernel
theorem dX12_name_7 : decode cX12_name 7 = .ok (.aload_n 0, 1) := by decide +kernel
theorem dX12_name_8 : decode cX12_name 8 = .ok (.invokevirtual 329, 3) := by decide +kernel
theorem dX12_name_11 : decode cX12_name 11 = .ok (.aload_n 0, 1) := by decide +kernel
theorem dX12_name_12 : decode cX12_name 12 = .ok (.getfield 302, 3) := by decide +kernel
theorem dX12_name_15 : decode cX12_name 15 = .ok (.ireturn, 1) := by decide +kernel
theorem dX12_name_16 : decode cX12_name 16 = .ok (.aload_n 0, 1) := by decide +kernel
theorem dX12_name_17 : decode cX12_name 17 = .ok (.dup, 1) := by decide +kernel
theorem dX12_name_18 : decode cX12_name 18 = .ok (.getfield 302, 3) := by decide +kernel
theorem dX12_name_21 : decode cX12_name 21 = .ok (.iconst 1, 1) := by decide +kernel
theorem dX12_name_22 : decode cX12_name 22 = .ok (.iadd, 1) := by decide +kernel
theorem dX12_name_23 : decode cX12_name 23 = .ok (.putfield 302, 3) := by decide +kernel
theorem dX12_name_26 : decode cX12_name 26 = .ok (.aload_n 0, 1) := by decide +kernel
theorem dX12_name_27 : decode cX12_name 27 = .ok (.getfield 302, 3) := by decide +kernel
theorem dX12_name_30 : decode cX12_name 30 = .ok (.iconst 1, 1) := by decide +kernel
theorem dX12_name_31 : decode cX12_name 31 = .ok (.isub, 1) := by decide +kernel
theorem dX12_name_32 : decode cX12_name 32 = .ok (.ireturn, 1) := by decide +kernel
def m_name (F : Nat) (cs : RS) : Option (RS × Int32) := Option.bind (m_isName F cs ) fun v_1 => if v_1 = 0 then (Option.bind (m_wrong F cs ) fun cs_3 => some (cs_3, cs_3.1 18)) else (some (setF cs 18 ((cs.1 18) + 1), ((setF cs 18 ((cs.1 18) + 1)).1 18) - 1))
set_option maxHeartbeats 4000000 in
set_option maxRecDepth 100000 in
theorem s_name (l : Launch) (dC : Nat → ClassId) (dI : Nat → Nat → Nat) (cB cI cJ cZ : ClassId) (h0 : Nat) (a : Nat → Nat) (K V : Nat → Nat) (fz : Value) (F : Nat) (cs : RS) (cs9 : RS) (r9 : Int32) (hf : m_name F cs = some (cs9, r9)) : okI l dC dI cB cI cJ cZ h0 a K V fz yX12_name (wsOf yX12_name cX12_name 1 (some .int)) (8) [.ref h0] cs cs9 r9 := by
  intro sz
  refine Met.ofW (cc := cX12_name) (maxL := 1) (ret := (some .int)) (by decide) rfl ?_
  intro p e s m args below meth c s₁ B hml hv
  obtain ⟨rfl, hsz, hP, hK, hD0, hZ⟩ := hv
  have hx := B.exec
  have hb := B.bytes
  have hr := B.returns
  have hts := atoms_spec (ws := (wsOf yX12_name cX12_name 1 (some .int))) B.pre
  have hown : s.vm.findClass RX12 = some m.cls := findClass_of_methodNamed B.named
  have hlocks := B.notSynchronized
  subst hsz
  have hD := hD0.self (sz := s.heap.size)
  generalize hAe : va_A (mW cB cI cJ cZ h0 a cs) s.heap.size = A at hD hZ ⊢
  have hA : ∀ q : Nat, s.heap.size ≤ q → A q := fun q h => by rw [← hAe]; exact Or.inr h
  have hS : va_S A s.heap s.heap [] := va_S.rf
  have hl := lv_entry ([.ref h0]) (n := 1) (Nat.le_of_ble_eq_true rfl)
  rw [lg_entry_eq]
  generalize (lg_sl ([.ref h0]) ++ List.replicate (1 - (lg_sl ([.ref h0])).length) Slot.unset).toArray = ls at hl ⊢
  have hl : lv_has ls 1 [(0, .ref h0)] := hl
  have h := hf
  unfold m_name at h
  refine lv_aload_n hx hb dX12_name_0 rfl (lv_at hl 0 rfl) ?_
  obtain ⟨v_1, hv_1, h⟩ := ob h
  refine calI (As := []) hx hb hml hts hown hK hP hD hS hA hZ (s_isName l dC dI cB cI cJ cZ h0 a K V fz F cs  v_1 hv_1) (cw_isName hts (fr := 7) (Nat.le_of_ble_eq_true rfl) (Nat.le_of_ble_eq_true rfl)) rfl hl.1 (Nat.le_of_ble_eq_true rfl) ⟨Nat.zero_le _, Nat.zero_le _⟩ dX12_name_1 (fun H locs hP hD hS => ?_)
  refine lv_if_ne (tgt := 16) hx hb dX12_name_4 (by decide) (fun c_2 => ?_) (fun c_2 => ?_)
  · skip
    replace h := (if_neg c_2).symm.trans h
    refine lv_aload_n hx hb dX12_name_16 rfl (lv_at hl 0 rfl) ?_
    refine lv_dup hx hb dX12_name_17 rfl ?_
    refine fg_18 hx hb hts hown hK hP dX12_name_18 ?_
    refine lv_iconst (v := 1) hx hb dX12_name_21 (by decide) ?_
    refine lv_iadd hx hb dX12_name_22 ?_
    refine fp_18 hx hb hts hown hK hP hD hS dX12_name_23 (fun H locs hP hD hS => ?_)
    refine lv_aload_n hx hb dX12_name_26 rfl (lv_at hl 0 rfl) ?_
    refine fg_18 hx hb hts hown hK hP dX12_name_27 ?_
    refine lv_iconst (v := 1) hx hb dX12_name_30 (by decide) ?_
    refine lv_isub hx hb dX12_name_31 ?_
    obtain ⟨e1, e2⟩ := Prod.mk.inj (Option.some.inj h)
    rw [e1] at hP hD
    exact W.iret (v := ((setF cs 18 ((cs.1 18) + 1)).1 18) - 1) hx hb hr (fun t_ ht hW => ⟨⟨((setF cs 18 ((cs.1 18) + 1)).1 18) - 1, (), rfl, e2, by rw [ht]; exact hP, hD⟩, hS.F ht⟩) hS.2.2 dX12_name_32
  · skip
    replace h := (if_pos c_2).symm.trans h
    refine lv_aload_n hx hb dX12_name_7 rfl (lv_at hl 0 rfl) ?_
    obtain ⟨cs_3, hv_3, h⟩ := ob h
    refine calV (As := []) hx hb hml hts hown hK hP hD hS hA hZ (s_wrong l dC dI cB cI cJ cZ h0 a K V fz F cs  cs_3 hv_3) (cw_wrong hts (fr := 1) (Nat.le_of_ble_eq_true rfl) (Nat.le_of_ble_eq_true rfl)) rfl hl.1 (Nat.le_of_ble_eq_true rfl) ⟨Nat.zero_le _, Nat.zero_le _⟩ dX12_name_8 (fun H locs hP hD hS => ?_)
    refine lv_aload_n hx hb dX12_name_11 rfl (lv_at hl 0 rfl) ?_
    refine fg_18 hx hb hts hown hK hP dX12_name_12 ?_
    obtain ⟨e1, e2⟩ := Prod.mk.inj (Option.some.inj h)
    rw [e1] at hP hD
    exact W.iret (v := cs_3.1 18) hx hb hr (fun t_ ht hW => ⟨⟨cs_3.1 18, (), rfl, e2, by rw [ht]; exact hP, hD⟩, hS.F ht⟩) hS.2.2 dX12_name_15
theorem cw_name {R : Room} {s : State} {args : Array Value} {y0 : MethodName} {c0 : ByteArray} {n0 : Nat} {r0 : Option FieldType} (hts : ∀ w ∈ wsOf y0 c0 n0 r0, w.before args s = true) {fr : Nat} (h1 : fr + 1 ≤ R.frames) (h2 : 8 + (1 + 11) + 60 * fr ≤ R.locals) : CallW R s args RX12 RX12 450 yX12_name cX12_name 1 (some .int) (wsOf yX12_name cX12_name 1 (some .int)) ({ frames := fr, cells := 0, slots := 0, locals := 60 * fr } : Room) 0 0 0 := cwV 0 hts (gd_all (in_V kw_2361 kw_2363 kw_159 kw_191 kc_X12_name)) rfl rfl rfl (by decide +kernel) ⟨h1, h2⟩
theorem dX12_isSame_0 : decode cX12_isSame 0 = .ok (.aload_n 0, 1) := by decide +kernel
theorem dX12_isSame_1 : decode cX12_isSame 1 = .ok (.getfield 46, 3) := by decide +kernel
theorem dX12_isSame_4 : decode cX12_isSame 4 = .ok (.iload_n 1, 1) := by decide +kernel
theorem dX12_isSame_5 : decode cX12_isSame 5 = .ok (.iaload, 1) := by decide +kernel
theorem dX12_isSame_6 : decode cX12_isSame 6 = .ok (.aload_n 0, 1) := by decide +kernel
theorem dX12_isSame_7 : decode cX12_isSame 7 = .ok (.getfield 46, 3) := by decide +kernel
theorem dX12_isSame_10 : decode cX12_isSame 10 = .ok (.iload_n 2, 1) := by decide +kernel
theorem dX12_isSame_11 : decode cX12_isSame 11 = .ok (.iaload, 1) := by decide +kernel
theorem dX12_isSame_12 : decode cX12_isSame 12 = .ok (.if_icmp .eq 5, 3) := by decide +kernel
theorem dX12_isSame_15 : decode cX12_isSame 15 = .ok (.iconst 0, 1) := by decide +kernel
theorem dX12_isSame_16 : decode cX12_isSame 16 = .ok (.ireturn, 1) := by decide +kernel
theorem dX12_isSame_17 : decode cX12_isSame 17 = .ok (.iconst 0, 1) := by decide +kernel
theorem dX12_isSame_18 : decode cX12_isSame 18 = .ok (.istore_n 3, 1) := by decide +kernel
theorem dX12_isSame_19 : decode cX12_isSame 19 = .ok (.iload_n 3, 1) := by decide +kernel
theorem dX12_isSame_20 : decode cX12_isSame 20 = .ok (.aload_n 0, 1) := by decide +kernel
theorem dX12_isSame_21 : decode cX12_isSame 21 = .ok (.getfield 46, 3) := by decide +kernel
theorem dX12_isSame_24 : decode cX12_isSame 24 = .ok (.iload_n 1, 1) := by decide +kernel
theorem dX12_isSame_25 : decode cX12_isSame 25 = .ok (.iaload, 1) := by decide +kernel
theorem dX12_isSame_26 : decode cX12_isSame 26 = .ok (.if_icmp .ge 40, 3) := by decide +kernel
theorem dX12_isSame_29 : decode cX12_isSame 29 = .ok (.aload_n 0, 1) := by decide +kernel
theorem dX12_isSame_30 : decode cX12_isSame 30 = .ok (.getfield 13, 3) := by decide +kernel
theorem dX12_isSame_33 : decode cX12_isSame 33 = .ok (.aload_n 0, 1) := by decide +kernel
theorem dX12_isSame_34 : decode cX12_isSame 34 = .ok (.getfield 43, 3) := by decide +kernel
theorem dX12_isSame_37 : decode cX12_isSame 37 = .ok (.iload_n 1, 1) := by decide +kernel
theorem dX12_isSame_38 : decode cX12_isSame 38 = .ok (.iaload, 1) := by decide +kernel
theorem dX12_isSame_39 : decode cX12_isSame 39 = .ok (.iload_n 3, 1) := by decide +kernel
theorem dX12_isSame_40 : decode cX12_isSame 40 = .ok (.iadd, 1) := by decide +kernel
theorem dX12_isSame_41 : decode cX12_isSame 41 = .ok (.baload, 1) := by decide +kernel
theorem dX12_isSame_42 : decode cX12_isSame 42 = .ok (.aload_n 0, 1) := by decide +kernel
theorem dX12_isSame_43 : decode cX12_isSame 43 = .ok (.getfield 13, 3) := by decide +kernel
theorem dX12_isSame_46 : decode cX12_isSame 46 = .ok (.aload_n 0, 1) := by decide +kernel
theorem dX12_isSame_47 : decode cX12_isSame 47 = .ok (.getfield 43, 3) := by decide +kernel
theorem dX12_isSame_50 : decode cX12_isSame 50 = .ok (.iload_n 2, 1) := by decide +kernel
theorem dX12_isSame_51 : decode cX12_isSame 51 = .ok (.iaload, 1) := by decide +kernel
theorem dX12_isSame_52 : decode cX12_isSame 52 = .ok (.iload_n 3, 1) := by decide +kernel
theorem dX12_isSame_53 : decode cX12_isSame 53 = .ok (.iadd, 1) := by decide +kernel
theorem dX12_isSame_54 : decode cX12_isSame 54 = .ok (.baload, 1) := by decide +kernel
theorem dX12_isSame_55 : decode cX12_isSame 55 = .ok (.if_icmp .eq 5, 3) := by decide +kernel
theorem dX12_isSame_58 : decode cX12_isSame 58 = .ok (.iconst 0, 1) := by decide +kernel
theorem dX12_isSame_59 : decode cX12_isSame 59 = .ok (.ireturn, 1) := by decide +kernel
theorem dX12_isSame_60 : decode cX12_isSame 60 = .ok (.iinc 3 1, 3) := by decide +kernel
theorem dX12_isSame_63 : decode cX12_isSame 63 = .ok (.goto (-44), 3) := by decide +kernel
theorem dX12_isSame_66 : decode cX12_isSame 66 = .ok (.iconst 1, 1) := by decide +kernel
theorem dX12_isSame_67 : decode cX12_isSame 67 = .ok (.ireturn, 1) := by decide +kernel
def m_isSame_L19 (F : Nat) (cs : RS) : Nat → Int32 → Int32 → Int32 → Option Int32
  | 0, _, _, _ => none
  | lf_19 + 1, u1, u2, u3 => Option.bind (rdI (cs.2.2.1 16) 2001 u1) fun v_1 => if v_1 ≤ u3 then (some 1) else (Option.bind (rdI (cs.2.2.1 15) 2001 u1) fun v_3 => Option.bind (rdI (cs.2.2.1 2) 2000 (v_3 + u3)) fun v_4 => Option.bind (rdI (cs.2.2.1 15) 2001 u2) fun v_5 => Option.bind (rdI (cs.2.2.1 2) 2000 (v_5 + u3)) fun v_6 => if v_4 = v_6 then ((m_isSame_L19 F cs lf_19) u1 u2 (u3 + 1)) else (some 0))
def m_isSame (F : Nat) (cs : RS) (x1 : Int32) (x2 : Int32) : Option Int32 := Option.bind (rdI (cs.2.2.1 16) 2001 x1) fun v_8 => Option.bind (rdI (cs.2.2.1 16) 2001 x2) fun v_9 => if v_8 = v_9 then (m_isSame_L19 F cs F x1 x2 0) else (some 0)
set_option maxHeartbeats 4000000 in
set_option maxRecDepth 100000 in
theorem s_isSame (l : Launch) (dC : Nat → ClassId) (dI : Nat → Nat → Nat) (cB cI cJ cZ : ClassId) (h0 : Nat) (a : Nat → Nat) (K V : Nat → Nat) (fz : Value) (F : Nat) (cs : RS) (x1 : Int32) (x2 : Int32) (r9 : Int32) (hf : m_isSame F cs x1 x2 = some r9) : okI l dC dI cB cI cJ cZ h0 a K V fz yX12_isSame (wsOf yX12_isSame cX12_isSame 4 (some .boolean)) (0) [.ref h0, .int x1, .int x2] cs cs r9 := by
  intro sz
  refine Met.ofW (cc := cX12_isSame) (maxL := 4) (ret := (some .boolean)) (by decide) rfl ?_
  intro p e s m args below meth c s₁ B hml hv
  obtain ⟨rfl, hsz, hP, hK, hD0, hZ⟩ := hv
  have hx := B.exec
  have hb := B.bytes
  have hr := B.returns
  have hts := atoms_spec (ws := (wsOf yX12_isSame cX12_isSame 4 (some .boolean))) B.pre
  have hown : s.vm.findClass RX12 = some m.cls := findClass_of_methodNamed B.named
  have hlocks := B.notSynchronized
  subst hsz
  have hD := hD0.self (sz := s.heap.size)
  generalize hAe : va_A (mW cB cI cJ cZ h0 a cs) s.heap.size = A at hD hZ ⊢
  have hA : ∀ q : Nat, s.heap.size ≤ q → A q := fun q h => by rw [← hAe]; exact Or.inr h
  have hS : va_S A s.heap s.heap [] := va_S.rf
  have hl := lv_entry ([.ref h0, .int x1, .int x2]) (n := 4) (Nat.le_of_ble_eq_true rfl)
  rw [lg_entry_eq]
  generalize (lg_sl ([.ref h0, .int x1, .int x2]) ++ List.replicate (4 - (lg_sl ([.ref h0, .int x1, .int x2])).length) Slot.unset).toArray = ls at hl ⊢
  have hl : lv_has ls 4 [(0, .ref h0), (1, .int x1), (2, .int x2)] := hl
  have L_19 : ∀ (lf_19 : Nat), ∀ (u1 : Int32) (u2 : Int32) (u3 : Int32), m_isSame_L19 F cs lf_19 u1 u2 u3 = some r9 → ∀ (H : Heap) (locs : List Loc) (ls : Array Slot), va_P (dC, dI) vwCl (mW cB cI cJ cZ h0 a cs) H → va_D A (mW cB cI cJ cZ h0 a cs) → va_S A s.heap H locs → lv_has ls 4 [(0, .ref h0), (1, .int u1), (2, .int u2), (3, .int u3)] → W p l e (headSpec (wsOf yX12_isSame cX12_isSame 4 (some .boolean)) ({ frames := 0, cells := 0, slots := 0, locals := 60 * (0) } : Room)).room s m ([.ref h0, .int x1, .int x2] : List Value).toArray below meth c H locs 0 0 (MQ below (va_Qi (fun (x : Int32) (_ : Unit) => x = r9) (fun _ t_ => va_P (dC, dI) vwCl (mW cB cI cJ cZ h0 a cs) t_.heap ∧ va_D A (mW cB cI cJ cZ h0 a cs)) A) ([.ref h0, .int x1, .int x2] : List Value).toArray s 0 0 A) (F0 m 19 ls []) := by
    intro lf_19
    induction lf_19 with
    | zero => intro u1 u2 u3 h; cases (show (none : Option Int32) = _ from h)
    | succ lf_19 ih_19 =>
      intro u1 u2 u3 h H locs ls hP hD hS hl
      rw [m_isSame_L19] at h
      refine lv_iload_n hx hb dX12_isSame_19 rfl (lv_at hl 3 rfl) ?_
      refine lv_aload_n hx hb dX12_isSame_20 rfl (lv_at hl 0 rfl) ?_
      refine fg_16 hx hb hts hown hK hP dX12_isSame_21 ?_
      refine lv_iload_n hx hb dX12_isSame_24 rfl (lv_at hl 1 rfl) ?_
      obtain ⟨v_1, hv_1, h⟩ := ob h
      refine ag_16 hx hb hK hP hv_1 dX12_isSame_25 ?_
      refine lv_icmp_ge (tgt := 66) hx hb dX12_isSame_26 (by decide) (fun c_2 => ?_) (fun c_2 => ?_)
      · skip
        replace h := (if_pos c_2).symm.trans h
        refine lv_iconst (v := 1) hx hb dX12_isSame_66 (by decide) ?_
        have e2 := Option.some.inj h
        exact W.zret (v := 1) hx hb hr (nzN (Or.inr rfl)) (fun t_ ht hW => ⟨⟨1, (), rfl, e2, by rw [ht]; exact hP, hD⟩, hS.F ht⟩) hS.2.2 dX12_isSame_67
      · skip
        replace h := (if_neg c_2).symm.trans h
        refine lv_aload_n hx hb dX12_isSame_29 rfl (lv_at hl 0 rfl) ?_
        refine fg_2 hx hb hts hown hK hP dX12_isSame_30 ?_
        refine lv_aload_n hx hb dX12_isSame_33 rfl (lv_at hl 0 rfl) ?_
        refine fg_15 hx hb hts hown hK hP dX12_isSame_34 ?_
        refine lv_iload_n hx hb dX12_isSame_37 rfl (lv_at hl 1 rfl) ?_
        obtain ⟨v_3, hv_3, h⟩ := ob h
        refine ag_15 hx hb hK hP hv_3 dX12_isSame_38 ?_
        refine lv_iload_n hx hb dX12_isSame_39 rfl (lv_at hl 3 rfl) ?_
        refine lv_iadd hx hb dX12_isSame_40 ?_
        obtain ⟨v_4, hv_4, h⟩ := ob h
        refine ag_2 hx hb hK hP hv_4 dX12_isSame_41 ?_
        refine lv_aload_n hx hb dX12_isSame_42 rfl (lv_at hl 0 rfl) ?_
        refine fg_2 hx hb hts hown hK hP dX12_isSame_43 ?_
        refine lv_aload_n hx hb dX12_isSame_46 rfl (lv_at hl 0 rfl) ?_
        refine fg_15 hx hb hts hown hK hP dX12_isSame_47 ?_
        refine lv_iload_n hx hb dX12_isSame_50 rfl (lv_at hl 2 rfl) ?_
        obtain ⟨v_5, hv_5, h⟩ := ob h
        refine ag_15 hx hb hK hP hv_5 dX12_isSame_51 ?_
        refine lv_iload_n hx hb dX12_isSame_52 rfl (lv_at hl 3 rfl) ?_
        refine lv_iadd hx hb dX12_isSame_53 ?_
        obtain ⟨v_6, hv_6, h⟩ := ob h
        refine ag_2 hx hb hK hP hv_6 dX12_isSame_54 ?_
        refine lv_icmp_eq (tgt := 60) hx hb dX12_isSame_55 (by decide) (fun c_7 => ?_) (fun c_7 => ?_)
        · skip
          replace h := (if_pos c_7).symm.trans h
          refine lv_iinc (v := u3 + 1) (lv' := [(3, .int (u3 + 1)), (0, .ref h0), (1, .int u1), (2, .int u2)]) hx hb dX12_isSame_60 hl (k := 3) rfl rfl (by decide) rfl (fun ls hl => ?_)
          refine lv_goto (tgt := 19) hx hb dX12_isSame_63 (by decide) ?_
          exact ih_19 u1 u2 (u3 + 1) h _ _ _ hP hD hS (lv_sub hl [1, 2, 3, 0] rfl)
        · skip
          replace h := (if_neg c_7).symm.trans h
          refine lv_iconst (v := 0) hx hb dX12_isSame_58 (by decide) ?_
          have e2 := Option.some.inj h
          exact W.zret (v := 0) hx hb hr (nzN (Or.inl rfl)) (fun t_ ht hW => ⟨⟨0, (), rfl, e2, by rw [ht]; exact hP, hD⟩, hS.F ht⟩) hS.2.2 dX12_isSame_59
  have h := hf
  unfold m_isSame at h
  refine lv_aload_n hx hb dX12_isSame_0 rfl (lv_at hl 0 rfl) ?_
  refine fg_16 hx hb hts hown hK hP dX12_isSame_1 ?_
  refine lv_iload_n hx hb dX12_isSame_4 rfl (lv_at hl 1 rfl) ?_
  obtain ⟨v_8, hv_8, h⟩ := ob h
  refine ag_16 hx hb hK hP hv_8 dX12_isSame_5 ?_
  refine lv_aload_n hx hb dX12_isSame_6 rfl (lv_at hl 0 rfl) ?_
  refine fg_16 hx hb hts hown hK hP dX12_isSame_7 ?_
  refine lv_iload_n hx hb dX12_isSame_10 rfl (lv_at hl 2 rfl) ?_
  obtain ⟨v_9, hv_9, h⟩ := ob h
  refine ag_16 hx hb hK hP hv_9 dX12_isSame_11 ?_
  refine lv_icmp_eq (tgt := 17) hx hb dX12_isSame_12 (by decide) (fun c_10 => ?_) (fun c_10 => ?_)
  · skip
    replace h := (if_pos c_10).symm.trans h
    refine lv_iconst (v := 0) hx hb dX12_isSame_17 (by decide) ?_
    refine lv_istore_n (lv' := [(3, .int 0), (0, .ref h0), (1, .int x1), (2, .int x2)]) hx hb dX12_isSame_18 rfl hl (by decide) rfl (fun ls hl => ?_)
    exact L_19 F x1 x2 0 h _ _ _ hP hD hS (lv_sub hl [1, 2, 3, 0] rfl)
  · skip
    replace h := (if_neg c_10).symm.trans h
    refine lv_iconst (v := 0) hx hb dX12_isSame_15 (by decide) ?_
    have e2 := Option.some.inj h
    exact W.zret (v := 0) hx hb hr (nzN (Or.inl rfl)) (fun t_ ht hW => ⟨⟨0, (), rfl, e2, by rw [ht]; exact hP, hD⟩, hS.F ht⟩) hS.2.2 dX12_isSame_16
theorem cw_isSame {R : Room} {s : State} {args : Array Value} {y0 : MethodName} {c0 : ByteArray} {n0 : Nat} {r0 : Option FieldType} (hts : ∀ w ∈ wsOf y0 c0 n0 r0, w.before args s = true) {fr : Nat} (h1 : fr + 1 ≤ R.frames) (h2 : 8 + (4 + 11) + 60 * fr ≤ R.locals) : CallW R s args RX12 RX12 508 yX12_isSame cX12_isSame 4 (some .boolean) (wsOf yX12_isSame cX12_isSame 4 (some .boolean)) ({ frames := fr, cells := 0, slots := 0, locals := 60 * fr } : Room) 0 0 2 := cwV 2 hts (gd_all (in_V kw_2407 kw_2409 kw_165 kw_191 kc_X12_isSame)) rfl rfl rfl (by decide +kernel) ⟨h1, h2⟩
theorem dX12_deeper_0 : decode cX12_deeper 0 = .ok (.aload_n 0, 1) := by decide +kernel
theorem dX12_deeper_1 : decode cX12_deeper 1 = .ok (.dup, 1) := by decide +kernel
theorem dX12_deeper_2 : decode cX12_deeper 2 = .ok (.getfield 347, 3) := by decide +kernel
theorem dX12_deeper_5 : decode cX12_deeper 5 = .ok (.iconst 1, 1) := by decide +kernel
theorem dX12_deeper_6 : decode cX12_deeper 6 = .ok (.iadd, 1) := by decide +kernel
theorem dX12_deeper_7 : decode cX12_deeper 7 = .ok (.putfield 347, 3) := by decide +kernel
theorem dX12_deeper_10 : decode cX12_deeper 10 = .ok (.aload_n 0, 1) := by decide +kernel
theorem dX12_deeper_11 : decode cX12_deeper 11 = .ok (.getfield 347, 3) := by decide +kernel
theorem dX12_deeper_14 : decode cX12_deeper 14 = .ok (.bipush 12, 2) := by decide +kernel
theorem dX12_deeper_16 : decode cX12_deeper 16 = .ok (.if_icmp .le 10, 3) := by decide +kernel
theorem dX12_deeper_19 : decode cX12_deeper 19 = .ok (.aload_n 0, 1) := by decide +kernel
theorem dX12_deeper_20 : decode cX12_deeper 20 = .ok (.bipush 7, 2) := by decide +kernel
theorem dX12_deeper_22 : decode cX12_deeper 22 = .ok (.iload_n 1, 1) := by decide +kernel
theorem dX12_deeper_23 : decode cX12_deeper 23 = .ok (.invokevirtual 305, 3) := by decide +kernel
theorem dX12_deeper_26 : decode cX12_deeper 26 = .ok (.return_, 1) := by decide +kernel
def m_deeper_b26 (F : Nat) (cs1 : RS) : Option RS := some cs1
def m_deeper (F : Nat) (cs : RS) (x1 : Int32) : Option RS := if ((setF cs 70 ((cs.1 70) + 1)).1 70) ≤ 12 then (m_deeper_b26 F (setF cs 70 ((cs.1 70) + 1))) else (Option.bind (m_tell F (setF cs 70 ((cs.1 70) + 1)) 7 x1) fun cs_2 => m_deeper_b26 F cs_2)
set_option maxHeartbeats 4000000 in
set_option maxRecDepth 100000 in
theorem s_deeper (l : Launch) (dC : Nat → ClassId) (dI : Nat → Nat → Nat) (cB cI cJ cZ : ClassId) (h0 : Nat) (a : Nat → Nat) (K V : Nat → Nat) (fz : Value) (F : Nat) (cs : RS) (x1 : Int32) (cs9 : RS) (hf : m_deeper F cs x1 = some cs9) : okV l dC dI cB cI cJ cZ h0 a K V fz yX12_deeper (wsOf yX12_deeper cX12_deeper 2 none) (1) [.ref h0, .int x1] cs cs9 := by
  intro sz
  refine Met.ofW (cc := cX12_deeper) (maxL := 2) (ret := none) (by decide) rfl ?_
  intro p e s m args below meth c s₁ B hml hv
  obtain ⟨rfl, hsz, hP, hK, hD0, hZ⟩ := hv
  have hx := B.exec
  have hb := B.bytes
  have hr := B.returns
  have hts := atoms_spec (ws := (wsOf yX12_deeper cX12_deeper 2 none)) B.pre
  have hown : s.vm.findClass RX12 = some m.cls := findClass_of_methodNamed B.named
  have hlocks := B.notSynchronized
  subst hsz
  have hD := hD0.self (sz := s.heap.size)
  generalize hAe : va_A (mW cB cI cJ cZ h0 a cs) s.heap.size = A at hD hZ ⊢
  have hA : ∀ q : Nat, s.heap.size ≤ q → A q := fun q h => by rw [← hAe]; exact Or.inr h
  have hS : va_S A s.heap s.heap [] := va_S.rf
  have hl := lv_entry ([.ref h0, .int x1]) (n := 2) (Nat.le_of_ble_eq_true rfl)
  rw [lg_entry_eq]
  generalize (lg_sl ([.ref h0, .int x1]) ++ List.replicate (2 - (lg_sl ([.ref h0, .int x1])).length) Slot.unset).toArray = ls at hl ⊢
  have hl : lv_has ls 2 [(0, .ref h0), (1, .int x1)] := hl
  have B_26 : ∀ (cs1 : RS) , m_deeper_b26 F cs1 = some cs9 → ∀ (H : Heap) (locs : List Loc) (ls : Array Slot), va_P (dC, dI) vwCl (mW cB cI cJ cZ h0 a cs1) H → va_D A (mW cB cI cJ cZ h0 a cs1) → va_S A s.heap H locs → lv_has ls 2 [] → W p l e (headSpec (wsOf yX12_deeper cX12_deeper 2 none) ({ frames := 1, cells := 0, slots := 0, locals := 60 * (1) } : Room)).room s m ([.ref h0, .int x1] : List Value).toArray below meth c H locs 0 0 (MQ below (va_Qv (fun (_ : Unit) => True) (fun _ t_ => va_P (dC, dI) vwCl (mW cB cI cJ cZ h0 a cs9) t_.heap ∧ va_D A (mW cB cI cJ cZ h0 a cs9)) A) ([.ref h0, .int x1] : List Value).toArray s 0 0 A) (F0 m 26 ls []) := by
    intro cs1  h H locs ls hP hD hS hl
    unfold m_deeper_b26 at h
    have e1 := Option.some.inj h
    rw [e1] at hP hD
    exact W.vret hx hb hr (fun t_ ht hW => ⟨⟨(), rfl, trivial, by rw [ht]; exact hP, hD⟩, hS.F ht⟩) hS.2.2 dX12_deeper_26
  have h := hf
  unfold m_deeper at h
  refine lv_aload_n hx hb dX12_deeper_0 rfl (lv_at hl 0 rfl) ?_
  refine lv_dup hx hb dX12_deeper_1 rfl ?_
  refine fg_70 hx hb hts hown hK hP dX12_deeper_2 ?_
  refine lv_iconst (v := 1) hx hb dX12_deeper_5 (by decide) ?_
  refine lv_iadd hx hb dX12_deeper_6 ?_
  refine fp_70 hx hb hts hown hK hP hD hS dX12_deeper_7 (fun H locs hP hD hS => ?_)
  refine lv_aload_n hx hb dX12_deeper_10 rfl (lv_at hl 0 rfl) ?_
  refine fg_70 hx hb hts hown hK hP dX12_deeper_11 ?_
  refine lv_bipush (v := 12) hx hb dX12_deeper_14 (by decide) ?_
  refine lv_icmp_le (tgt := 26) hx hb dX12_deeper_16 (by decide) (fun c_1 => ?_) (fun c_1 => ?_)
  · skip
    replace h := (if_pos c_1).symm.trans h
    exact B_26 (setF cs 70 ((cs.1 70) + 1)) h _ _ _ hP hD hS (lv_sub hl [] rfl)
  · skip
    replace h := (if_neg c_1).symm.trans h
    refine lv_aload_n hx hb dX12_deeper_19 rfl (lv_at hl 0 rfl) ?_
    refine lv_bipush (v := 7) hx hb dX12_deeper_20 (by decide) ?_
    refine lv_iload_n hx hb dX12_deeper_22 rfl (lv_at hl 1 rfl) ?_
    obtain ⟨cs_2, hv_2, h⟩ := ob h
    refine calV (As := [.int 7, .int x1]) hx hb hml hts hown hK hP hD hS hA hZ (s_tell l dC dI cB cI cJ cZ h0 a K V fz F (setF cs 70 ((cs.1 70) + 1)) 7 x1 cs_2 hv_2) (cw_tell hts (fr := 0) (Nat.le_of_ble_eq_true rfl) (Nat.le_of_ble_eq_true rfl)) rfl hl.1 (Nat.le_of_ble_eq_true rfl) ⟨Nat.zero_le _, Nat.zero_le _⟩ dX12_deeper_23 (fun H locs hP hD hS => ?_)
    exact B_26 cs_2 h _ _ _ hP hD hS (lv_sub hl [] rfl)
theorem cw_deeper {R : Room} {s : State} {args : Array Value} {y0 : MethodName} {c0 : ByteArray} {n0 : Nat} {r0 : Option FieldType} (hts : ∀ w ∈ wsOf y0 c0 n0 r0, w.before args s = true) {fr : Nat} (h1 : fr + 1 ≤ R.frames) (h2 : 8 + (2 + 11) + 60 * fr ≤ R.locals) : CallW R s args RX12 RX12 401 yX12_deeper cX12_deeper 2 none (wsOf yX12_deeper cX12_deeper 2 none) ({ frames := fr, cells := 0, slots := 0, locals := 60 * fr } : Room) 0 0 1 := cwV 1 hts (gd_all (in_V kw_2337 kw_2339 kw_154 kw_191 kc_X12_deeper)) rfl rfl rfl (by decide +kernel) ⟨h1, h2⟩
theorem dX12_begins_0 : decode cX12_begins 0 = .ok (.aload_n 0, 1) := by decide +kernel
theorem dX12_begins_1 : decode cX12_begins 1 = .ok (.getfield 292, 3) := by decide +kernel
theorem dX12_begins_4 : decode cX12_begins 4 = .ok (.ifCond .ne 5, 3) := by decide +kernel
theorem dX12_begins_7 : decode cX12_begins 7 = .ok (.iconst 0, 1) := by decide +kernel
theorem dX12_begins_8 : decode cX12_begins 8 = .ok (.ireturn, 1) := by decide +kernel
theorem dX12_begins_9 : decode cX12_begins 9 = .ok (.aload_n 0, 1) := by decide +kernel
theorem dX12_begins_10 : decode cX12_begins 10 = .ok (.getfield 40, 3) := by decide +kernel
theorem dX12_begins_13 : decode cX12_begins 13 = .ok (.aload_n 0, 1) := by decide +kernel
theorem dX12_begins_14 : decode cX12_begins 14 = .ok (.getfield 302, 3) := by decide +kernel
theorem dX12_begins_17 : decode cX12_begins 17 = .ok (.iaload, 1) := by decide +kernel
theorem dX12_begins_18 : decode cX12_begins 18 = .ok (.istore_n 2, 1) := by decide +kernel
theorem dX12_begins_19 : decode cX12_begins 19 = .ok (.iload_n 2, 1) := by decide +kernel
theorem dX12_begins_20 : decode cX12_begins 20 = .ok (.iconst 1, 1) := by decide +kernel
theorem dX12_begins_21 : decode cX12_begins 21 = .ok (.if_icmp .eq 26, 3) := by decide +kernel
theorem dX12_begins_24 : decode cX12_begins 24 = .ok (.iload_n 2, 1) := by decide +kernel
theorem dX12_begins_25 : decode cX12_begins 25 = .ok (.iconst 2, 1) := by decide +kernel
theorem dX12_begins_26 : decode cX12_begins 26 = .ok (.if_icmp .eq 15, 3) := by decide +kernel
theorem dX12_begins_29 : decode cX12_begins 29 = .ok (.iload_n 2, 1) := by decide +kernel
theorem dX12_begins_30 : decode cX12_begins 30 = .ok (.bipush 40, 2) := by decide +kernel
theorem dX12_begins_32 : decode cX12_begins 32 = .ok (.if_icmp .eq 9, 3) := by decide +kernel
theorem dX12_begins_35 : decode cX12_begins 35 = .ok (.iload_n 2, 1) := by decide +kernel
theorem dX12_begins_36 : decode cX12_begins 36 = .ok (.bipush 45, 2) := by decide +kernel
theorem dX12_begins_38 : decode cX12_begins 38 = .ok (.if_icmp .ne 7, 3) := by decide +kernel
theorem dX12_begins_41 : decode cX12_begins 41 = .ok (.iconst 1, 1) := by decide +kernel
theorem dX12_begins_42 : decode cX12_begins 42 = .ok (.goto 4, 3) := by decide +kernel
theorem dX12_begins_45 : decode cX12_begins 45 = .ok (.iconst 0, 1) := by decide +kernel
theorem dX12_begins_46 : decode cX12_begins 46 = .ok (.ireturn, 1) := by decide +kernel
theorem dX12_begins_47 : decode cX12_begins 47 = .ok (.aload_n 0, 1) := by decide +kernel
theorem dX12_begins_48 : decode cX12_begins 48 = .ok (.aload_n 0, 1) := by decide +kernel
theorem dX12_begins_49 : decode cX12_begins 49 = .ok (.getfield 302, 3) := by decide +kernel
theorem dX12_begins_52 : decode cX12_begins 52 = .ok (.ldc_w 350, 3) := by decide +kernel
theorem dX12_begins_55 : decode cX12_begins 55 = .ok (.invokevirtual 318, 3) := by decide +kernel
theorem dX12_begins_58 : decode cX12_begins 58 = .ok (.ifCond .ne 45, 3) := by decide +kernel
theorem dX12_begins_61 : decode cX12_begins 61 = .ok (.aload_n 0, 1) := by decide +kernel
theorem dX12_begins_62 : decode cX12_begins 62 = .ok (.aload_n 0, 1) := by decide +kernel
theorem dX12_begins_63 : decode cX12_begins 63 = .ok (.getfield 302, 3) := by decide +kernel
theorem dX12_begins_66 : decode cX12_begins 66 = .ok (.ldc_w 352, 3) := by decide +kernel
theorem dX12_begins_69 : decode cX12_begins 69 = .ok (.invokevirtual 318, 3) := by decide +kernel
theorem dX12_begins_72 : decode cX12_begins 72 = .ok (.ifCond .ne 31, 3) := by decide +kernel
theorem dX12_begins_75 : decode cX12_begins 75 = .ok (.aload_n 0, 1) := by decide +kernel
theorem dX12_begins_76 : decode cX12_begins 76 = .ok (.aload_n 0, 1) := by decide +kernel
theorem dX12_begins_77 : decode cX12_begins 77 = .ok (.getfield 302, 3) := by decide +kernel
theorem dX12_begins_80 : decode cX12_begins 80 = .ok (.ldc_w 354, 3) := by decide +kernel
theorem dX12_begins_83 : decode cX12_begins 83 = .ok (.invokevirtual 318, 3) := by decide +kernel
theorem dX12_begins_86 : decode cX12_begins 86 = .ok (.ifCond .ne 17, 3) := by decide +kernel
theorem dX12_begins_89 : decode cX12_begins 89 = .ok (.aload_n 0, 1) := by decide +kernel
theorem dX12_begins_90 : decode cX12_begins 90 = .ok (.aload_n 0, 1) := by decide +kernel
theorem dX12_begins_91 : decode cX12_begins 91 = .ok (.getfield 302, 3) := by decide +kernel
theorem dX12_begins_94 : decode cX12_begins 94 = .ok (.ldc_w 356, 3) := by decide +kernel
theorem dX12_begins_97 : decode cX12_begins 97 = .ok (.invokevirtual 318, 3) := by decide +kernel
theorem dX12_begins_100 : decode cX12_begins 100 = .ok (.ifCond .eq 7, 3) := by decide +kernel
theorem dX12_begins_103 : decode cX12_begins 103 = .ok (.iconst 1, 1) := by decide +kernel
theorem dX12_begins_104 : decode cX12_begins 104 = .ok (.goto 4, 3) := by decide +kernel
theorem dX12_begins_107 : decode cX12_begins 107 = .ok (.iconst 0, 1) := by decide +kernel
theorem dX12_begins_108 : decode cX12_begins 108 = .ok (.istore_n 3, 1) := by decide +kernel
theorem dX12_begins_109 : decode cX12_begins 109 = .ok (.iload_n 3, 1) := by decide +kernel
theorem dX12_begins_110 : decode cX12_begins 110 = .ok (.ifCond .eq 23, 3) := by decide +kernel
theorem dX12_begins_113 : decode cX12_begins 113 = .ok (.aload_n 0, 1) := by decide +kernel
theorem dX12_begins_114 : decode cX12_begins 114 = .ok (.getfield 358, 3) := by decide +kernel
theorem dX12_begins_117 : decode cX12_begins 117 = .ok (.ifCond .eq 14, 3) := by decide +kernel
theorem dX12_begins_120 : decode cX12_begins 120 = .ok (.aload_n 0, 1) := by decide +kernel
theorem dX12_begins_121 : decode cX12_begins 121 = .ok (.getfield 361, 3) := by decide +kernel
theorem dX12_begins_124 : decode cX12_begins 124 = .ok (.ifCond .ne 7, 3) := by decide +kernel
theorem dX12_begins_127 : decode cX12_begins 127 = .ok (.iconst 1, 1) := by decide +kernel
theorem dX12_begins_128 : decode cX12_begins 128 = .ok (.goto 4, 3) := by decide +kernel
theorem dX12_begins_131 : decode cX12_begins 131 = .ok (.iconst 0, 1) := by decide +kernel
theorem dX12_begins_132 : decode cX12_begins 132 = .ok (.ireturn, 1) := by decide +kernel
theorem dX12_begins_133 : decode cX12_begins 133 = .ok (.aload_n 0, 1) := by decide +kernel
theorem dX12_begins_134 : decode cX12_begins 134 = .ok (.aload_n 0, 1) := by decide +kernel
theorem dX12_begins_135 : decode cX12_begins 135 = .ok (.getfield 302, 3) := by decide +kernel
theorem dX12_begins_138 : decode cX12_begins 138 = .ok (.ldc_w 364, 3) := by decide +kernel
theorem dX12_begins_141 : decode cX12_begins 141 = .ok (.invokevirtual 318, 3) := by decide +kernel
theorem dX12_begins_144 : decode cX12_begins 144 = .ok (.ifCond .ne 73, 3) := by decide +kernel
theorem dX12_begins_147 : decode cX12_begins 147 = .ok (.aload_n 0, 1) := by decide +kernel
theorem dX12_begins_148 : decode cX12_begins 148 = .ok (.aload_n 0, 1) := by decide +kernel
theorem dX12_begins_149 : decode cX12_begins 149 = .ok (.getfield 302, 3) := by decide +kernel
theorem dX12_begins_152 : decode cX12_begins 152 = .ok (.ldc_w 366, 3) := by decide +kernel
theorem dX12_begins_155 : decode cX12_begins 155 = .ok (.invokevirtual 318, 3) := by decide +kernel
theorem dX12_begins_158 : decode cX12_begins 158 = .ok (.ifCond .ne 59, 3) := by decide +kernel
theorem dX12_begins_161 : decode cX12_begins 161 = .ok (.aload_n 0, 1) := by decide +kernel
theorem dX12_begins_162 : decode cX12_begins 162 = .ok (.aload_n 0, 1) := by decide +kernel
theorem dX12_begins_163 : decode cX12_begins 163 = .ok (.getfield 302, 3) := by decide +kernel
theorem dX12_begins_166 : decode cX12_begins 166 = .ok (.ldc_w 368, 3) := by decide +kernel
theorem dX12_begins_169 : decode cX12_begins 169 = .ok (.invokevirtual 318, 3) := by decide +kernel
theorem dX12_begins_172 : decode cX12_begins 172 = .ok (.ifCond .ne 45, 3) := by decide +kernel
theorem dX12_begins_175 : decode cX12_begins 175 = .ok (.aload_n 0, 1) := by decide +kernel
theorem dX12_begins_176 : decode cX12_begins 176 = .ok (.aload_n 0, 1) := by decide +kernel
theorem dX12_begins_177 : decode cX12_begins 177 = .ok (.getfield 302, 3) := by decide +kernel
theorem dX12_begins_180 : decode cX12_begins 180 = .ok (.ldc_w 370, 3) := by decide +kernel
theorem dX12_begins_183 : decode cX12_begins 183 = .ok (.invokevirtual 318, 3) := by decide +kernel
theorem dX12_begins_186 : decode cX12_begins 186 = .ok (.ifCond .ne 31, 3) := by decide +kernel
theorem dX12_begins_189 : decode cX12_begins 189 = .ok (.aload_n 0, 1) := by decide +kernel
theorem dX12_begins_190 : decode cX12_begins 190 = .ok (.aload_n 0, 1) := by decide +kernel
theorem dX12_begins_191 : decode cX12_begins 191 = .ok (.getfield 302, 3) := by decide +kernel
theorem dX12_begins_194 : decode cX12_begins 194 = .ok (.ldc_w 372, 3) := by decide +kernel
theorem dX12_begins_197 : decode cX12_begins 197 = .ok (.invokevirtual 318, 3) := by decide +kernel
theorem dX12_begins_200 : decode cX12_begins 200 = .ok (.ifCond .ne 17, 3) := by decide +kernel
theorem dX12_begins_203 : decode cX12_begins 203 = .ok (.aload_n 0, 1) := by decide +kernel
theorem dX12_begins_204 : decode cX12_begins 204 = .ok (.aload_n 0, 1) := by decide +kernel
theorem dX12_begins_205 : decode cX12_begins 205 = .ok (.getfield 302, 3) := by decide +kernel
theorem dX12_begins_208 : decode cX12_begins 208 = .ok (.ldc_w 374, 3) := by decide +kernel
theorem dX12_begins_211 : decode cX12_begins 211 = .ok (.invokevirtual 318, 3) := by decide +kernel
theorem dX12_begins_214 : decode cX12_begins 214 = .ok (.ifCond .eq 7, 3) := by decide +kernel
theorem dX12_begins_217 : decode cX12_begins 217 = .ok (.iconst 1, 1) := by decide +kernel
theorem dX12_begins_218 : decode cX12_begins 218 = .ok (.goto 4, 3) := by decide +kernel
theorem dX12_begins_221 : decode cX12_begins 221 = .ok (.iconst 0, 1) := by decide +kernel
theorem dX12_begins_222 : decode cX12_begins 222 = .ok (.istore 4, 2) := by decide +kernel
theorem dX12_begins_224 : decode cX12_begins 224 = .ok (.iload 4, 2) := by decide +kernel
theorem dX12_begins_226 : decode cX12_begins 226 = .ok (.ifCond .ne 32, 3) := by decide +kernel
theorem dX12_begins_229 : decode cX12_begins 229 = .ok (.aload_n 0, 1) := by decide +kernel
theorem dX12_begins_230 : decode cX12_begins 230 = .ok (.aload_n 0, 1) := by decide +kernel
theorem dX12_begins_231 : decode cX12_begins 231 = .ok (.getfield 302, 3) := by decide +kernel
theorem dX12_begins_234 : decode cX12_begins 234 = .ok (.invokevirtual 340, 3) := by decide +kernel
theorem dX12_begins_237 : decode cX12_begins 237 = .ok (.ifCond .eq 21, 3) := by decide +kernel
theorem dX12_begins_240 : decode cX12_begins 240 = .ok (.iload_n 1, 1) := by decide +kernel
theorem dX12_begins_241 : decode cX12_begins 241 = .ok (.ifCond .ne 21, 3) := by decide +kernel
theorem dX12_begins_244 : decode cX12_begins 244 = .ok (.aload_n 0, 1) := by decide +kernel
theorem dX12_begins_245 : decode cX12_begins 245 = .ok (.aload_n 0, 1) := by decide +kernel
theorem dX12_begins_246 : decode cX12_begins 246 = .ok (.getfield 302, 3) := by decide +kernel
theorem dX12_begins_249 : decode cX12_begins 249 = .ok (.ldc_w 376, 3) := by decide +kernel
theorem dX12_begins_252 : decode cX12_begins 252 = .ok (.invokevirtual 318, 3) := by decide +kernel
theorem dX12_begins_255 : decode cX12_begins 255 = .ok (.ifCond .eq 7, 3) := by decide +kernel
theorem dX12_begins_258 : decode cX12_begins 258 = .ok (.iconst 1, 1) := by decide +kernel
theorem dX12_begins_259 : decode cX12_begins 259 = .ok (.goto 4, 3) := by decide +kernel
theorem dX12_begins_262 : decode cX12_begins 262 = .ok (.iconst 0, 1) := by decide +kernel
theorem dX12_begins_263 : decode cX12_begins 263 = .ok (.ireturn, 1) := by decide +kernel
def m_begins_b46 (F : Nat) (cs : RS) (y0 : Int32) : Option Int32 := Option.bind (ckZ y0) fun _ => some y0
def m_begins_b41 (F : Nat) (cs : RS) : Option Int32 := m_begins_b46 F cs 1
def m_begins_b132 (F : Nat) (cs : RS) (y0 : Int32) : Option Int32 := Option.bind (ckZ y0) fun _ => some y0
def m_begins_b131 (F : Nat) (cs : RS) : Option Int32 := m_begins_b132 F cs 0
def m_begins_b263 (F : Nat) (cs : RS) (y0 : Int32) : Option Int32 := Option.bind (ckZ y0) fun _ => some y0
def m_begins_b258 (F : Nat) (cs : RS) : Option Int32 := m_begins_b263 F cs 1
def m_begins_b262 (F : Nat) (cs : RS) : Option Int32 := m_begins_b263 F cs 0
def m_begins_b222 (F : Nat) (cs : RS) (u1 : Int32) (y0 : Int32) : Option Int32 := if y0 = 0 then (Option.bind (m_isTaken F cs (cs.1 18)) fun v_5 => if v_5 = 0 then (m_begins_b258 F cs ) else (if u1 = 0 then (Option.bind (m_isText F cs (cs.1 18) 16) fun v_8 => if v_8 = 0 then (m_begins_b262 F cs ) else (m_begins_b258 F cs )) else (m_begins_b262 F cs ))) else (m_begins_b258 F cs )
def m_begins_b217 (F : Nat) (cs : RS) (u1 : Int32) : Option Int32 := m_begins_b222 F cs u1 1
def m_begins_b108 (F : Nat) (cs : RS) (u1 : Int32) (y0 : Int32) : Option Int32 := if y0 = 0 then (Option.bind (m_isText F cs (cs.1 18) 9) fun v_11 => if v_11 = 0 then (Option.bind (m_isText F cs (cs.1 18) 10) fun v_13 => if v_13 = 0 then (Option.bind (m_isText F cs (cs.1 18) 11) fun v_15 => if v_15 = 0 then (Option.bind (m_isText F cs (cs.1 18) 12) fun v_17 => if v_17 = 0 then (Option.bind (m_isText F cs (cs.1 18) 13) fun v_19 => if v_19 = 0 then (Option.bind (m_isText F cs (cs.1 18) 14) fun v_21 => if v_21 = 0 then (m_begins_b222 F cs u1 0) else (m_begins_b217 F cs u1)) else (m_begins_b217 F cs u1)) else (m_begins_b217 F cs u1)) else (m_begins_b217 F cs u1)) else (m_begins_b217 F cs u1)) else (m_begins_b217 F cs u1)) else (if (cs.1 72) = 0 then (m_begins_b131 F cs ) else (if (cs.1 73) = 0 then (m_begins_b132 F cs 1) else (m_begins_b131 F cs )))
def m_begins_b103 (F : Nat) (cs : RS) (u1 : Int32) : Option Int32 := m_begins_b108 F cs u1 1
def m_begins (F : Nat) (cs : RS) (x1 : Int32) : Option Int32 := if (cs.1 21) = 0 then (some 0) else (Option.bind (rdI (cs.2.2.1 14) 2001 (cs.1 18)) fun v_26 => if v_26 = 1 then (Option.bind (m_isText F cs (cs.1 18) 5) fun v_28 => if v_28 = 0 then (Option.bind (m_isText F cs (cs.1 18) 6) fun v_30 => if v_30 = 0 then (Option.bind (m_isText F cs (cs.1 18) 7) fun v_32 => if v_32 = 0 then (Option.bind (m_isText F cs (cs.1 18) 8) fun v_34 => if v_34 = 0 then (m_begins_b108 F cs x1 0) else (m_begins_b103 F cs x1)) else (m_begins_b103 F cs x1)) else (m_begins_b103 F cs x1)) else (m_begins_b103 F cs x1)) else (if v_26 = 2 then (m_begins_b41 F cs ) else (if v_26 = 40 then (m_begins_b41 F cs ) else (if v_26 = 45 then (m_begins_b41 F cs ) else (m_begins_b46 F cs 0)))))
set_option maxHeartbeats 4000000 in
set_option maxRecDepth 100000 in
theorem s_begins (l : Launch) (dC : Nat → ClassId) (dI : Nat → Nat → Nat) (cB cI cJ cZ : ClassId) (h0 : Nat) (a : Nat → Nat) (K V : Nat → Nat) (fz : Value) (F : Nat) (cs : RS) (x1 : Int32) (r9 : Int32) (hf : m_begins F cs x1 = some r9) : okI l dC dI cB cI cJ cZ h0 a K V fz yX12_begins (wsOf yX12_begins cX12_begins 5 (some .boolean)) (7) [.ref h0, .int x1] cs cs r9 := by
  intro sz
  refine Met.ofW (cc := cX12_begins) (maxL := 5) (ret := (some .boolean)) (by decide) rfl ?_
  intro p e s m args below meth c s₁ B hml hv
  obtain ⟨rfl, hsz, hP, hK, hD0, hZ⟩ := hv
  have hx := B.exec
  have hb := B.bytes
  have hr := B.returns
  have hts := atoms_spec (ws := (wsOf yX12_begins cX12_begins 5 (some .boolean))) B.pre
  have hown : s.vm.findClass RX12 = some m.cls := findClass_of_methodNamed B.named
  have hlocks := B.notSynchronized
  subst hsz
  have hD := hD0.self (sz := s.heap.size)
  generalize hAe : va_A (mW cB cI cJ cZ h0 a cs) s.heap.size = A at hD hZ ⊢
  have hA : ∀ q : Nat, s.heap.size ≤ q → A q := fun q h => by rw [← hAe]; exact Or.inr h
  have hS : va_S A s.heap s.heap [] := va_S.rf
  have hl := lv_entry ([.ref h0, .int x1]) (n := 5) (Nat.le_of_ble_eq_true rfl)
  rw [lg_entry_eq]
  generalize (lg_sl ([.ref h0, .int x1]) ++ List.replicate (5 - (lg_sl ([.ref h0, .int x1])).length) Slot.unset).toArray = ls at hl ⊢
  have hl : lv_has ls 5 [(0, .ref h0), (1, .int x1)] := hl
  have B_46 : ∀ (y0 : Int32), m_begins_b46 F cs y0 = some r9 → ∀ (H : Heap) (locs : List Loc) (ls : Array Slot), va_P (dC, dI) vwCl (mW cB cI cJ cZ h0 a cs) H → va_D A (mW cB cI cJ cZ h0 a cs) → va_S A s.heap H locs → lv_has ls 5 [] → W p l e (headSpec (wsOf yX12_begins cX12_begins 5 (some .boolean)) ({ frames := 7, cells := 0, slots := 0, locals := 60 * (7) } : Room)).room s m ([.ref h0, .int x1] : List Value).toArray below meth c H locs 0 0 (MQ below (va_Qi (fun (x : Int32) (_ : Unit) => x = r9) (fun _ t_ => va_P (dC, dI) vwCl (mW cB cI cJ cZ h0 a cs) t_.heap ∧ va_D A (mW cB cI cJ cZ h0 a cs)) A) ([.ref h0, .int x1] : List Value).toArray s 0 0 A) (F0 m 46 ls [.int y0]) := by
    intro y0 h H locs ls hP hD hS hl
    unfold m_begins_b46 at h
    obtain ⟨w_1, hw_1, h⟩ := ob h
    have e2 := Option.some.inj h
    exact W.zret (v := y0) hx hb hr (nzN (ckZ_some hw_1)) (fun t_ ht hW => ⟨⟨y0, (), rfl, e2, by rw [ht]; exact hP, hD⟩, hS.F ht⟩) hS.2.2 dX12_begins_46
  have B_41 : m_begins_b41 F cs = some r9 → ∀ (H : Heap) (locs : List Loc) (ls : Array Slot), va_P (dC, dI) vwCl (mW cB cI cJ cZ h0 a cs) H → va_D A (mW cB cI cJ cZ h0 a cs) → va_S A s.heap H locs → lv_has ls 5 [] → W p l e (headSpec (wsOf yX12_begins cX12_begins 5 (some .boolean)) ({ frames := 7, cells := 0, slots := 0, locals := 60 * (7) } : Room)).room s m ([.ref h0, .int x1] : List Value).toArray below meth c H locs 0 0 (MQ below (va_Qi (fun (x : Int32) (_ : Unit) => x = r9) (fun _ t_ => va_P (dC, dI) vwCl (mW cB cI cJ cZ h0 a cs) t_.heap ∧ va_D A (mW cB cI cJ cZ h0 a cs)) A) ([.ref h0, .int x1] : List Value).toArray s 0 0 A) (F0 m 41 ls []) := by
    intro  h H locs ls hP hD hS hl
    unfold m_begins_b41 at h
    refine lv_iconst (v := 1) hx hb dX12_begins_41 (by decide) ?_
    refine lv_goto (tgt := 46) hx hb dX12_begins_42 (by decide) ?_
    exact B_46 1 h _ _ _ hP hD hS (lv_sub hl [] rfl)
  have B_132 : ∀ (y0 : Int32), m_begins_b132 F cs y0 = some r9 → ∀ (H : Heap) (locs : List Loc) (ls : Array Slot), va_P (dC, dI) vwCl (mW cB cI cJ cZ h0 a cs) H → va_D A (mW cB cI cJ cZ h0 a cs) → va_S A s.heap H locs → lv_has ls 5 [] → W p l e (headSpec (wsOf yX12_begins cX12_begins 5 (some .boolean)) ({ frames := 7, cells := 0, slots := 0, locals := 60 * (7) } : Room)).room s m ([.ref h0, .int x1] : List Value).toArray below meth c H locs 0 0 (MQ below (va_Qi (fun (x : Int32) (_ : Unit) => x = r9) (fun _ t_ => va_P (dC, dI) vwCl (mW cB cI cJ cZ h0 a cs) t_.heap ∧ va_D A (mW cB cI cJ cZ h0 a cs)) A) ([.ref h0, .int x1] : List Value).toArray s 0 0 A) (F0 m 132 ls [.int y0]) := by
    intro y0 h H locs ls hP hD hS hl
    unfold m_begins_b132 at h
    obtain ⟨w_2, hw_2, h⟩ := ob h
    have e2 := Option.some.inj h
    exact W.zret (v := y0) hx hb hr (nzN (ckZ_some hw_2)) (fun t_ ht hW => ⟨⟨y0, (), rfl, e2, by rw [ht]; exact hP, hD⟩, hS.F ht⟩) hS.2.2 dX12_begins_132
  have B_131 : m_begins_b131 F cs = some r9 → ∀ (H : Heap) (locs : List Loc) (ls : Array Slot), va_P (dC, dI) vwCl (mW cB cI cJ cZ h0 a cs) H → va_D A (mW cB cI cJ cZ h0 a cs) → va_S A s.heap H locs → lv_has ls 5 [] → W p l e (headSpec (wsOf yX12_begins cX12_begins 5 (some .boolean)) ({ frames := 7, cells := 0, slots := 0, locals := 60 * (7) } : Room)).room s m ([.ref h0, .int x1] : List Value).toArray below meth c H locs 0 0 (MQ below (va_Qi (fun (x : Int32) (_ : Unit) => x = r9) (fun _ t_ => va_P (dC, dI) vwCl (mW cB cI cJ cZ h0 a cs) t_.heap ∧ va_D A (mW cB cI cJ cZ h0 a cs)) A) ([.ref h0, .int x1] : List Value).toArray s 0 0 A) (F0 m 131 ls []) := by
    intro  h H locs ls hP hD hS hl
    unfold m_begins_b131 at h
    refine lv_iconst (v := 0) hx hb dX12_begins_131 (by decide) ?_
    exact B_132 0 h _ _ _ hP hD hS (lv_sub hl [] rfl)
  have B_263 : ∀ (y0 : Int32), m_begins_b263 F cs y0 = some r9 → ∀ (H : Heap) (locs : List Loc) (ls : Array Slot), va_P (dC, dI) vwCl (mW cB cI cJ cZ h0 a cs) H → va_D A (mW cB cI cJ cZ h0 a cs) → va_S A s.heap H locs → lv_has ls 5 [] → W p l e (headSpec (wsOf yX12_begins cX12_begins 5 (some .boolean)) ({ frames := 7, cells := 0, slots := 0, locals := 60 * (7) } : Room)).room s m ([.ref h0, .int x1] : List Value).toArray below meth c H locs 0 0 (MQ below (va_Qi (fun (x : Int32) (_ : Unit) => x = r9) (fun _ t_ => va_P (dC, dI) vwCl (mW cB cI cJ cZ h0 a cs) t_.heap ∧ va_D A (mW cB cI cJ cZ h0 a cs)) A) ([.ref h0, .int x1] : List Value).toArray s 0 0 A) (F0 m 263 ls [.int y0]) := by
    intro y0 h H locs ls hP hD hS hl
    unfold m_begins_b263 at h
    obtain ⟨w_3, hw_3, h⟩ := ob h
    have e2 := Option.some.inj h
    exact W.zret (v := y0) hx hb hr (nzN (ckZ_some hw_3)) (fun t_ ht hW => ⟨⟨y0, (), rfl, e2, by rw [ht]; exact hP, hD⟩, hS.F ht⟩) hS.2.2 dX12_begins_263
  have B_258 : m_begins_b258 F cs = some r9 → ∀ (H : Heap) (locs : List Loc) (ls : Array Slot), va_P (dC, dI) vwCl (mW cB cI cJ cZ h0 a cs) H → va_D A (mW cB cI cJ cZ h0 a cs) → va_S A s.heap H locs → lv_has ls 5 [] → W p l e (headSpec (wsOf yX12_begins cX12_begins 5 (some .boolean)) ({ frames := 7, cells := 0, slots := 0, locals := 60 * (7) } : Room)).room s m ([.ref h0, .int x1] : List Value).toArray below meth c H locs 0 0 (MQ below (va_Qi (fun (x : Int32) (_ : Unit) => x = r9) (fun _ t_ => va_P (dC, dI) vwCl (mW cB cI cJ cZ h0 a cs) t_.heap ∧ va_D A (mW cB cI cJ cZ h0 a cs)) A) ([.ref h0, .int x1] : List Value).toArray s 0 0 A) (F0 m 258 ls []) := by
    intro  h H locs ls hP hD hS hl
    unfold m_begins_b258 at h
    refine lv_iconst (v := 1) hx hb dX12_begins_258 (by decide) ?_
    refine lv_goto (tgt := 263) hx hb dX12_begins_259 (by decide) ?_
    exact B_263 1 h _ _ _ hP hD hS (lv_sub hl [] rfl)
  have B_262 : m_begins_b262 F cs = some r9 → ∀ (H : Heap) (locs : List Loc) (ls : Array Slot), va_P (dC, dI) vwCl (mW cB cI cJ cZ h0 a cs) H → va_D A (mW cB cI cJ cZ h0 a cs) → va_S A s.heap H locs → lv_has ls 5 [] → W p l e (headSpec (wsOf yX12_begins cX12_begins 5 (some .boolean)) ({ frames := 7, cells := 0, slots := 0, locals := 60 * (7) } : Room)).room s m ([.ref h0, .int x1] : List Value).toArray below meth c H locs 0 0 (MQ below (va_Qi (fun (x : Int32) (_ : Unit) => x = r9) (fun _ t_ => va_P (dC, dI) vwCl (mW cB cI cJ cZ h0 a cs) t_.heap ∧ va_D A (mW cB cI cJ cZ h0 a cs)) A) ([.ref h0, .int x1] : List Value).toArray s 0 0 A) (F0 m 262 ls []) := by
    intro  h H locs ls hP hD hS hl
    unfold m_begins_b262 at h
    refine lv_iconst (v := 0) hx hb dX12_begins_262 (by decide) ?_
    exact B_263 0 h _ _ _ hP hD hS (lv_sub hl [] rfl)
  have B_222 : ∀ (u1 : Int32) (y0 : Int32), m_begins_b222 F cs u1 y0 = some r9 → ∀ (H : Heap) (locs : List Loc) (ls : Array Slot), va_P (dC, dI) vwCl (mW cB cI cJ cZ h0 a cs) H → va_D A (mW cB cI cJ cZ h0 a cs) → va_S A s.heap H locs → lv_has ls 5 [(0, .ref h0), (1, .int u1)] → W p l e (headSpec (wsOf yX12_begins cX12_begins 5 (some .boolean)) ({ frames := 7, cells := 0, slots := 0, locals := 60 * (7) } : Room)).room s m ([.ref h0, .int x1] : List Value).toArray below meth c H locs 0 0 (MQ below (va_Qi (fun (x : Int32) (_ : Unit) => x = r9) (fun _ t_ => va_P (dC, dI) vwCl (mW cB cI cJ cZ h0 a cs) t_.heap ∧ va_D A (mW cB cI cJ cZ h0 a cs)) A) ([.ref h0, .int x1] : List Value).toArray s 0 0 A) (F0 m 222 ls [.int y0]) := by
    intro u1 y0 h H locs ls hP hD hS hl
    unfold m_begins_b222 at h
    refine lv_istore (lv' := [(4, .int y0), (0, .ref h0), (1, .int u1)]) hx hb dX12_begins_222 hl (by decide) rfl (fun ls hl => ?_)
    refine lv_iload hx hb dX12_begins_224 (lv_at hl 0 rfl) ?_
    refine lv_if_ne (tgt := 258) hx hb dX12_begins_226 (by decide) (fun c_4 => ?_) (fun c_4 => ?_)
    · skip
      replace h := (if_neg c_4).symm.trans h
      exact B_258  h _ _ _ hP hD hS (lv_sub hl [] rfl)
    · skip
      replace h := (if_pos c_4).symm.trans h
      refine lv_aload_n hx hb dX12_begins_229 rfl (lv_at hl 1 rfl) ?_
      refine lv_aload_n hx hb dX12_begins_230 rfl (lv_at hl 1 rfl) ?_
      refine fg_18 hx hb hts hown hK hP dX12_begins_231 ?_
      obtain ⟨v_5, hv_5, h⟩ := ob h
      refine calI (As := [.int (cs.1 18)]) hx hb hml hts hown hK hP hD hS hA hZ (s_isTaken l dC dI cB cI cJ cZ h0 a K V fz F cs (cs.1 18) v_5 hv_5) (cw_isTaken hts (fr := 6) (Nat.le_of_ble_eq_true rfl) (Nat.le_of_ble_eq_true rfl)) rfl hl.1 (Nat.le_of_ble_eq_true rfl) ⟨Nat.zero_le _, Nat.zero_le _⟩ dX12_begins_234 (fun H locs hP hD hS => ?_)
      refine lv_if_eq (tgt := 258) hx hb dX12_begins_237 (by decide) (fun c_6 => ?_) (fun c_6 => ?_)
      · skip
        replace h := (if_pos c_6).symm.trans h
        exact B_258  h _ _ _ hP hD hS (lv_sub hl [] rfl)
      · skip
        replace h := (if_neg c_6).symm.trans h
        refine lv_iload_n hx hb dX12_begins_240 rfl (lv_at hl 2 rfl) ?_
        refine lv_if_ne (tgt := 262) hx hb dX12_begins_241 (by decide) (fun c_7 => ?_) (fun c_7 => ?_)
        · skip
          replace h := (if_neg c_7).symm.trans h
          exact B_262  h _ _ _ hP hD hS (lv_sub hl [] rfl)
        · skip
          replace h := (if_pos c_7).symm.trans h
          refine lv_aload_n hx hb dX12_begins_244 rfl (lv_at hl 1 rfl) ?_
          refine lv_aload_n hx hb dX12_begins_245 rfl (lv_at hl 1 rfl) ?_
          refine fg_18 hx hb hts hown hK hP dX12_begins_246 ?_
          refine va_ldcSW (own := RX12) (index := 376) (tx := soT 16) (q := K 16) hx hb hown (hZ.ref 16 (by decide)) dX12_begins_249 ?_
          obtain ⟨v_8, hv_8, h⟩ := ob h
          refine calI (As := [.int (cs.1 18), .ref (K 16)]) hx hb hml hts hown hK hP hD hS hA hZ (s_isText l dC dI cB cI cJ cZ h0 a K V fz F cs (cs.1 18) 16 (by decide) v_8 hv_8) (cw_isText hts (fr := 6) (Nat.le_of_ble_eq_true rfl) (Nat.le_of_ble_eq_true rfl)) rfl hl.1 (Nat.le_of_ble_eq_true rfl) ⟨Nat.zero_le _, Nat.zero_le _⟩ dX12_begins_252 (fun H locs hP hD hS => ?_)
          refine lv_if_eq (tgt := 262) hx hb dX12_begins_255 (by decide) (fun c_9 => ?_) (fun c_9 => ?_)
          · skip
            replace h := (if_pos c_9).symm.trans h
            exact B_262  h _ _ _ hP hD hS (lv_sub hl [] rfl)
          · skip
            replace h := (if_neg c_9).symm.trans h
            exact B_258  h _ _ _ hP hD hS (lv_sub hl [] rfl)
  have B_217 : ∀ (u1 : Int32), m_begins_b217 F cs u1 = some r9 → ∀ (H : Heap) (locs : List Loc) (ls : Array Slot), va_P (dC, dI) vwCl (mW cB cI cJ cZ h0 a cs) H → va_D A (mW cB cI cJ cZ h0 a cs) → va_S A s.heap H locs → lv_has ls 5 [(0, .ref h0), (1, .int u1)] → W p l e (headSpec (wsOf yX12_begins cX12_begins 5 (some .boolean)) ({ frames := 7, cells := 0, slots := 0, locals := 60 * (7) } : Room)).room s m ([.ref h0, .int x1] : List Value).toArray below meth c H locs 0 0 (MQ below (va_Qi (fun (x : Int32) (_ : Unit) => x = r9) (fun _ t_ => va_P (dC, dI) vwCl (mW cB cI cJ cZ h0 a cs) t_.heap ∧ va_D A (mW cB cI cJ cZ h0 a cs)) A) ([.ref h0, .int x1] : List Value).toArray s 0 0 A) (F0 m 217 ls []) := by
    intro u1 h H locs ls hP hD hS hl
    unfold m_begins_b217 at h
    refine lv_iconst (v := 1) hx hb dX12_begins_217 (by decide) ?_
    refine lv_goto (tgt := 222) hx hb dX12_begins_218 (by decide) ?_
    exact B_222 u1 1 h _ _ _ hP hD hS (lv_sub hl [0, 1] rfl)
  have B_108 : ∀ (u1 : Int32) (y0 : Int32), m_begins_b108 F cs u1 y0 = some r9 → ∀ (H : Heap) (locs : List Loc) (ls : Array Slot), va_P (dC, dI) vwCl (mW cB cI cJ cZ h0 a cs) H → va_D A (mW cB cI cJ cZ h0 a cs) → va_S A s.heap H locs → lv_has ls 5 [(0, .ref h0), (1, .int u1)] → W p l e (headSpec (wsOf yX12_begins cX12_begins 5 (some .boolean)) ({ frames := 7, cells := 0, slots := 0, locals := 60 * (7) } : Room)).room s m ([.ref h0, .int x1] : List Value).toArray below meth c H locs 0 0 (MQ below (va_Qi (fun (x : Int32) (_ : Unit) => x = r9) (fun _ t_ => va_P (dC, dI) vwCl (mW cB cI cJ cZ h0 a cs) t_.heap ∧ va_D A (mW cB cI cJ cZ h0 a cs)) A) ([.ref h0, .int x1] : List Value).toArray s 0 0 A) (F0 m 108 ls [.int y0]) := by
    intro u1 y0 h H locs ls hP hD hS hl
    unfold m_begins_b108 at h
    refine lv_istore_n (lv' := [(3, .int y0), (0, .ref h0), (1, .int u1)]) hx hb dX12_begins_108 rfl hl (by decide) rfl (fun ls hl => ?_)
    refine lv_iload_n hx hb dX12_begins_109 rfl (lv_at hl 0 rfl) ?_
    refine lv_if_eq (tgt := 133) hx hb dX12_begins_110 (by decide) (fun c_10 => ?_) (fun c_10 => ?_)
    · skip
      replace h := (if_pos c_10).symm.trans h
      refine lv_aload_n hx hb dX12_begins_133 rfl (lv_at hl 1 rfl) ?_
      refine lv_aload_n hx hb dX12_begins_134 rfl (lv_at hl 1 rfl) ?_
      refine fg_18 hx hb hts hown hK hP dX12_begins_135 ?_
      refine va_ldcSW (own := RX12) (index := 364) (tx := soT 9) (q := K 9) hx hb hown (hZ.ref 9 (by decide)) dX12_begins_138 ?_
      obtain ⟨v_11, hv_11, h⟩ := ob h
      refine calI (As := [.int (cs.1 18), .ref (K 9)]) hx hb hml hts hown hK hP hD hS hA hZ (s_isText l dC dI cB cI cJ cZ h0 a K V fz F cs (cs.1 18) 9 (by decide) v_11 hv_11) (cw_isText hts (fr := 6) (Nat.le_of_ble_eq_true rfl) (Nat.le_of_ble_eq_true rfl)) rfl hl.1 (Nat.le_of_ble_eq_true rfl) ⟨Nat.zero_le _, Nat.zero_le _⟩ dX12_begins_141 (fun H locs hP hD hS => ?_)
      refine lv_if_ne (tgt := 217) hx hb dX12_begins_144 (by decide) (fun c_12 => ?_) (fun c_12 => ?_)
      · skip
        replace h := (if_neg c_12).symm.trans h
        exact B_217 u1 h _ _ _ hP hD hS (lv_sub hl [1, 2] rfl)
      · skip
        replace h := (if_pos c_12).symm.trans h
        refine lv_aload_n hx hb dX12_begins_147 rfl (lv_at hl 1 rfl) ?_
        refine lv_aload_n hx hb dX12_begins_148 rfl (lv_at hl 1 rfl) ?_
        refine fg_18 hx hb hts hown hK hP dX12_begins_149 ?_
        refine va_ldcSW (own := RX12) (index := 366) (tx := soT 10) (q := K 10) hx hb hown (hZ.ref 10 (by decide)) dX12_begins_152 ?_
        obtain ⟨v_13, hv_13, h⟩ := ob h
        refine calI (As := [.int (cs.1 18), .ref (K 10)]) hx hb hml hts hown hK hP hD hS hA hZ (s_isText l dC dI cB cI cJ cZ h0 a K V fz F cs (cs.1 18) 10 (by decide) v_13 hv_13) (cw_isText hts (fr := 6) (Nat.le_of_ble_eq_true rfl) (Nat.le_of_ble_eq_true rfl)) rfl hl.1 (Nat.le_of_ble_eq_true rfl) ⟨Nat.zero_le _, Nat.zero_le _⟩ dX12_begins_155 (fun H locs hP hD hS => ?_)
        refine lv_if_ne (tgt := 217) hx hb dX12_begins_158 (by decide) (fun c_14 => ?_) (fun c_14 => ?_)
        · skip
          replace h := (if_neg c_14).symm.trans h
          exact B_217 u1 h _ _ _ hP hD hS (lv_sub hl [1, 2] rfl)
        · skip
          replace h := (if_pos c_14).symm.trans h
          refine lv_aload_n hx hb dX12_begins_161 rfl (lv_at hl 1 rfl) ?_
          refine lv_aload_n hx hb dX12_begins_162 rfl (lv_at hl 1 rfl) ?_
          refine fg_18 hx hb hts hown hK hP dX12_begins_163 ?_
          refine va_ldcSW (own := RX12) (index := 368) (tx := soT 11) (q := K 11) hx hb hown (hZ.ref 11 (by decide)) dX12_begins_166 ?_
          obtain ⟨v_15, hv_15, h⟩ := ob h
          refine calI (As := [.int (cs.1 18), .ref (K 11)]) hx hb hml hts hown hK hP hD hS hA hZ (s_isText l dC dI cB cI cJ cZ h0 a K V fz F cs (cs.1 18) 11 (by decide) v_15 hv_15) (cw_isText hts (fr := 6) (Nat.le_of_ble_eq_true rfl) (Nat.le_of_ble_eq_true rfl)) rfl hl.1 (Nat.le_of_ble_eq_true rfl) ⟨Nat.zero_le _, Nat.zero_le _⟩ dX12_begins_169 (fun H locs hP hD hS => ?_)
          refine lv_if_ne (tgt := 217) hx hb dX12_begins_172 (by decide) (fun c_16 => ?_) (fun c_16 => ?_)
          · skip
            replace h := (if_neg c_16).symm.trans h
            exact B_217 u1 h _ _ _ hP hD hS (lv_sub hl [1, 2] rfl)
          · skip
            replace h := (if_pos c_16).symm.trans h
            refine lv_aload_n hx hb dX12_begins_175 rfl (lv_at hl 1 rfl) ?_
            refine lv_aload_n hx hb dX12_begins_176 rfl (lv_at hl 1 rfl) ?_
            refine fg_18 hx hb hts hown hK hP dX12_begins_177 ?_
            refine va_ldcSW (own := RX12) (index := 370) (tx := soT 12) (q := K 12) hx hb hown (hZ.ref 12 (by decide)) dX12_begins_180 ?_
            obtain ⟨v_17, hv_17, h⟩ := ob h
            refine calI (As := [.int (cs.1 18), .ref (K 12)]) hx hb hml hts hown hK hP hD hS hA hZ (s_isText l dC dI cB cI cJ cZ h0 a K V fz F cs (cs.1 18) 12 (by decide) v_17 hv_17) (cw_isText hts (fr := 6) (Nat.le_of_ble_eq_true rfl) (Nat.le_of_ble_eq_true rfl)) rfl hl.1 (Nat.le_of_ble_eq_true rfl) ⟨Nat.zero_le _, Nat.zero_le _⟩ dX12_begins_183 (fun H locs hP hD hS => ?_)
            refine lv_if_ne (tgt := 217) hx hb dX12_begins_186 (by decide) (fun c_18 => ?_) (fun c_18 => ?_)
            · skip
              replace h := (if_neg c_18).symm.trans h
              exact B_217 u1 h _ _ _ hP hD hS (lv_sub hl [1, 2] rfl)
            · skip
              replace h := (if_pos c_18).symm.trans h
              refine lv_aload_n hx hb dX12_begins_189 rfl (lv_at hl 1 rfl) ?_
              refine lv_aload_n hx hb dX12_begins_190 rfl (lv_at hl 1 rfl) ?_
              refine fg_18 hx hb hts hown hK hP dX12_begins_191 ?_
              refine va_ldcSW (own := RX12) (index := 372) (tx := soT 13) (q := K 13) hx hb hown (hZ.ref 13 (by decide)) dX12_begins_194 ?_
              obtain ⟨v_19, hv_19, h⟩ := ob h
              refine calI (As := [.int (cs.1 18), .ref (K 13)]) hx hb hml hts hown hK hP hD hS hA hZ (s_isText l dC dI cB cI cJ cZ h0 a K V fz F cs (cs.1 18) 13 (by decide) v_19 hv_19) (cw_isText hts (fr := 6) (Nat.le_of_ble_eq_true rfl) (Nat.le_of_ble_eq_true rfl)) rfl hl.1 (Nat.le_of_ble_eq_true rfl) ⟨Nat.zero_le _, Nat.zero_le _⟩ dX12_begins_197 (fun H locs hP hD hS => ?_)
              refine lv_if_ne (tgt := 217) hx hb dX12_begins_200 (by decide) (fun c_20 => ?_) (fun c_20 => ?_)
              · skip
                replace h := (if_neg c_20).symm.trans h
                exact B_217 u1 h _ _ _ hP hD hS (lv_sub hl [1, 2] rfl)
              · skip
                replace h := (if_pos c_20).symm.trans h
                refine lv_aload_n hx hb dX12_begins_203 rfl (lv_at hl 1 rfl) ?_
                refine lv_aload_n hx hb dX12_begins_204 rfl (lv_at hl 1 rfl) ?_
                refine fg_18 hx hb hts hown hK hP dX12_begins_205 ?_
                refine va_ldcSW (own := RX12) (index := 374) (tx := soT 14) (q := K 14) hx hb hown (hZ.ref 14 (by decide)) dX12_begins_208 ?_
                obtain ⟨v_21, hv_21, h⟩ := ob h
                refine calI (As := [.int (cs.1 18), .ref (K 14)]) hx hb hml hts hown hK hP hD hS hA hZ (s_isText l dC dI cB cI cJ cZ h0 a K V fz F cs (cs.1 18) 14 (by decide) v_21 hv_21) (cw_isText hts (fr := 6) (Nat.le_of_ble_eq_true rfl) (Nat.le_of_ble_eq_true rfl)) rfl hl.1 (Nat.le_of_ble_eq_true rfl) ⟨Nat.zero_le _, Nat.zero_le _⟩ dX12_begins_211 (fun H locs hP hD hS => ?_)
                refine lv_if_eq (tgt := 221) hx hb dX12_begins_214 (by decide) (fun c_22 => ?_) (fun c_22 => ?_)
                · skip
                  replace h := (if_pos c_22).symm.trans h
                  refine lv_iconst (v := 0) hx hb dX12_begins_221 (by decide) ?_
                  exact B_222 u1 0 h _ _ _ hP hD hS (lv_sub hl [1, 2] rfl)
                · skip
                  replace h := (if_neg c_22).symm.trans h
                  exact B_217 u1 h _ _ _ hP hD hS (lv_sub hl [1, 2] rfl)
    · skip
      replace h := (if_neg c_10).symm.trans h
      refine lv_aload_n hx hb dX12_begins_113 rfl (lv_at hl 1 rfl) ?_
      refine fg_72 hx hb hts hown hK hP dX12_begins_114 ?_
      refine lv_if_eq (tgt := 131) hx hb dX12_begins_117 (by decide) (fun c_23 => ?_) (fun c_23 => ?_)
      · skip
        replace h := (if_pos c_23).symm.trans h
        exact B_131  h _ _ _ hP hD hS (lv_sub hl [] rfl)
      · skip
        replace h := (if_neg c_23).symm.trans h
        refine lv_aload_n hx hb dX12_begins_120 rfl (lv_at hl 1 rfl) ?_
        refine fg_73 hx hb hts hown hK hP dX12_begins_121 ?_
        refine lv_if_ne (tgt := 131) hx hb dX12_begins_124 (by decide) (fun c_24 => ?_) (fun c_24 => ?_)
        · skip
          replace h := (if_neg c_24).symm.trans h
          exact B_131  h _ _ _ hP hD hS (lv_sub hl [] rfl)
        · skip
          replace h := (if_pos c_24).symm.trans h
          refine lv_iconst (v := 1) hx hb dX12_begins_127 (by decide) ?_
          refine lv_goto (tgt := 132) hx hb dX12_begins_128 (by decide) ?_
          exact B_132 1 h _ _ _ hP hD hS (lv_sub hl [] rfl)
  have B_103 : ∀ (u1 : Int32), m_begins_b103 F cs u1 = some r9 → ∀ (H : Heap) (locs : List Loc) (ls : Array Slot), va_P (dC, dI) vwCl (mW cB cI cJ cZ h0 a cs) H → va_D A (mW cB cI cJ cZ h0 a cs) → va_S A s.heap H locs → lv_has ls 5 [(0, .ref h0), (1, .int u1)] → W p l e (headSpec (wsOf yX12_begins cX12_begins 5 (some .boolean)) ({ frames := 7, cells := 0, slots := 0, locals := 60 * (7) } : Room)).room s m ([.ref h0, .int x1] : List Value).toArray below meth c H locs 0 0 (MQ below (va_Qi (fun (x : Int32) (_ : Unit) => x = r9) (fun _ t_ => va_P (dC, dI) vwCl (mW cB cI cJ cZ h0 a cs) t_.heap ∧ va_D A (mW cB cI cJ cZ h0 a cs)) A) ([.ref h0, .int x1] : List Value).toArray s 0 0 A) (F0 m 103 ls []) := by
    intro u1 h H locs ls hP hD hS hl
    unfold m_begins_b103 at h
    refine lv_iconst (v := 1) hx hb dX12_begins_103 (by decide) ?_
    refine lv_goto (tgt := 108) hx hb dX12_begins_104 (by decide) ?_
    exact B_108 u1 1 h _ _ _ hP hD hS (lv_sub hl [0, 1] rfl)
  have h := hf
  unfold m_begins at h
  refine lv_aload_n hx hb dX12_begins_0 rfl (lv_at hl 0 rfl) ?_
  refine fg_21 hx hb hts hown hK hP dX12_begins_1 ?_
  refine lv_if_ne (tgt := 9) hx hb dX12_begins_4 (by decide) (fun c_25 => ?_) (fun c_25 => ?_)
  · skip
    replace h := (if_neg c_25).symm.trans h
    refine lv_aload_n hx hb dX12_begins_9 rfl (lv_at hl 0 rfl) ?_
    refine fg_14 hx hb hts hown hK hP dX12_begins_10 ?_
    refine lv_aload_n hx hb dX12_begins_13 rfl (lv_at hl 0 rfl) ?_
    refine fg_18 hx hb hts hown hK hP dX12_begins_14 ?_
    obtain ⟨v_26, hv_26, h⟩ := ob h
    refine ag_14 hx hb hK hP hv_26 dX12_begins_17 ?_
    refine lv_istore_n (lv' := [(2, .int v_26), (0, .ref h0), (1, .int x1)]) hx hb dX12_begins_18 rfl hl (by decide) rfl (fun ls hl => ?_)
    refine lv_iload_n hx hb dX12_begins_19 rfl (lv_at hl 0 rfl) ?_
    refine lv_iconst (v := 1) hx hb dX12_begins_20 (by decide) ?_
    refine lv_icmp_eq (tgt := 47) hx hb dX12_begins_21 (by decide) (fun c_27 => ?_) (fun c_27 => ?_)
    · skip
      replace h := (if_pos c_27).symm.trans h
      refine lv_aload_n hx hb dX12_begins_47 rfl (lv_at hl 1 rfl) ?_
      refine lv_aload_n hx hb dX12_begins_48 rfl (lv_at hl 1 rfl) ?_
      refine fg_18 hx hb hts hown hK hP dX12_begins_49 ?_
      refine va_ldcSW (own := RX12) (index := 350) (tx := soT 5) (q := K 5) hx hb hown (hZ.ref 5 (by decide)) dX12_begins_52 ?_
      obtain ⟨v_28, hv_28, h⟩ := ob h
      refine calI (As := [.int (cs.1 18), .ref (K 5)]) hx hb hml hts hown hK hP hD hS hA hZ (s_isText l dC dI cB cI cJ cZ h0 a K V fz F cs (cs.1 18) 5 (by decide) v_28 hv_28) (cw_isText hts (fr := 6) (Nat.le_of_ble_eq_true rfl) (Nat.le_of_ble_eq_true rfl)) rfl hl.1 (Nat.le_of_ble_eq_true rfl) ⟨Nat.zero_le _, Nat.zero_le _⟩ dX12_begins_55 (fun H locs hP hD hS => ?_)
      refine lv_if_ne (tgt := 103) hx hb dX12_begins_58 (by decide) (fun c_29 => ?_) (fun c_29 => ?_)
      · skip
        replace h := (if_neg c_29).symm.trans h
        exact B_103 x1 h _ _ _ hP hD hS (lv_sub hl [1, 2] rfl)
      · skip
        replace h := (if_pos c_29).symm.trans h
        refine lv_aload_n hx hb dX12_begins_61 rfl (lv_at hl 1 rfl) ?_
        refine lv_aload_n hx hb dX12_begins_62 rfl (lv_at hl 1 rfl) ?_
        refine fg_18 hx hb hts hown hK hP dX12_begins_63 ?_
        refine va_ldcSW (own := RX12) (index := 352) (tx := soT 6) (q := K 6) hx hb hown (hZ.ref 6 (by decide)) dX12_begins_66 ?_
        obtain ⟨v_30, hv_30, h⟩ := ob h
        refine calI (As := [.int (cs.1 18), .ref (K 6)]) hx hb hml hts hown hK hP hD hS hA hZ (s_isText l dC dI cB cI cJ cZ h0 a K V fz F cs (cs.1 18) 6 (by decide) v_30 hv_30) (cw_isText hts (fr := 6) (Nat.le_of_ble_eq_true rfl) (Nat.le_of_ble_eq_true rfl)) rfl hl.1 (Nat.le_of_ble_eq_true rfl) ⟨Nat.zero_le _, Nat.zero_le _⟩ dX12_begins_69 (fun H locs hP hD hS => ?_)
        refine lv_if_ne (tgt := 103) hx hb dX12_begins_72 (by decide) (fun c_31 => ?_) (fun c_31 => ?_)
        · skip
          replace h := (if_neg c_31).symm.trans h
          exact B_103 x1 h _ _ _ hP hD hS (lv_sub hl [1, 2] rfl)
        · skip
          replace h := (if_pos c_31).symm.trans h
          refine lv_aload_n hx hb dX12_begins_75 rfl (lv_at hl 1 rfl) ?_
          refine lv_aload_n hx hb dX12_begins_76 rfl (lv_at hl 1 rfl) ?_
          refine fg_18 hx hb hts hown hK hP dX12_begins_77 ?_
          refine va_ldcSW (own := RX12) (index := 354) (tx := soT 7) (q := K 7) hx hb hown (hZ.ref 7 (by decide)) dX12_begins_80 ?_
          obtain ⟨v_32, hv_32, h⟩ := ob h
          refine calI (As := [.int (cs.1 18), .ref (K 7)]) hx hb hml hts hown hK hP hD hS hA hZ (s_isText l dC dI cB cI cJ cZ h0 a K V fz F cs (cs.1 18) 7 (by decide) v_32 hv_32) (cw_isText hts (fr := 6) (Nat.le_of_ble_eq_true rfl) (Nat.le_of_ble_eq_true rfl)) rfl hl.1 (Nat.le_of_ble_eq_true rfl) ⟨Nat.zero_le _, Nat.zero_le _⟩ dX12_begins_83 (fun H locs hP hD hS => ?_)
          refine lv_if_ne (tgt := 103) hx hb dX12_begins_86 (by decide) (fun c_33 => ?_) (fun c_33 => ?_)
          · skip
            replace h := (if_neg c_33).symm.trans h
            exact B_103 x1 h _ _ _ hP hD hS (lv_sub hl [1, 2] rfl)
          · skip
            replace h := (if_pos c_33).symm.trans h
            refine lv_aload_n hx hb dX12_begins_89 rfl (lv_at hl 1 rfl) ?_
            refine lv_aload_n hx hb dX12_begins_90 rfl (lv_at hl 1 rfl) ?_
            refine fg_18 hx hb hts hown hK hP dX12_begins_91 ?_
            refine va_ldcSW (own := RX12) (index := 356) (tx := soT 8) (q := K 8) hx hb hown (hZ.ref 8 (by decide)) dX12_begins_94 ?_
            obtain ⟨v_34, hv_34, h⟩ := ob h
            refine calI (As := [.int (cs.1 18), .ref (K 8)]) hx hb hml hts hown hK hP hD hS hA hZ (s_isText l dC dI cB cI cJ cZ h0 a K V fz F cs (cs.1 18) 8 (by decide) v_34 hv_34) (cw_isText hts (fr := 6) (Nat.le_of_ble_eq_true rfl) (Nat.le_of_ble_eq_true rfl)) rfl hl.1 (Nat.le_of_ble_eq_true rfl) ⟨Nat.zero_le _, Nat.zero_le _⟩ dX12_begins_97 (fun H locs hP hD hS => ?_)
            refine lv_if_eq (tgt := 107) hx hb dX12_begins_100 (by decide) (fun c_35 => ?_) (fun c_35 => ?_)
            · skip
              replace h := (if_pos c_35).symm.trans h
              refine lv_iconst (v := 0) hx hb dX12_begins_107 (by decide) ?_
              exact B_108 x1 0 h _ _ _ hP hD hS (lv_sub hl [1, 2] rfl)
            · skip
              replace h := (if_neg c_35).symm.trans h
              exact B_103 x1 h _ _ _ hP hD hS (lv_sub hl [1, 2] rfl)
    · skip
      replace h := (if_neg c_27).symm.trans h
      refine lv_iload_n hx hb dX12_begins_24 rfl (lv_at hl 0 rfl) ?_
      refine lv_iconst (v := 2) hx hb dX12_begins_25 (by decide) ?_
      refine lv_icmp_eq (tgt := 41) hx hb dX12_begins_26 (by decide) (fun c_36 => ?_) (fun c_36 => ?_)
      · skip
        replace h := (if_pos c_36).symm.trans h
        exact B_41  h _ _ _ hP hD hS (lv_sub hl [] rfl)
      · skip
        replace h := (if_neg c_36).symm.trans h
        refine lv_iload_n hx hb dX12_begins_29 rfl (lv_at hl 0 rfl) ?_
        refine lv_bipush (v := 40) hx hb dX12_begins_30 (by decide) ?_
        refine lv_icmp_eq (tgt := 41) hx hb dX12_begins_32 (by decide) (fun c_37 => ?_) (fun c_37 => ?_)
        · skip
          replace h := (if_pos c_37).symm.trans h
          exact B_41  h _ _ _ hP hD hS (lv_sub hl [] rfl)
        · skip
          replace h := (if_neg c_37).symm.trans h
          refine lv_iload_n hx hb dX12_begins_35 rfl (lv_at hl 0 rfl) ?_
          refine lv_bipush (v := 45) hx hb dX12_begins_36 (by decide) ?_
          refine lv_icmp_ne (tgt := 45) hx hb dX12_begins_38 (by decide) (fun c_38 => ?_) (fun c_38 => ?_)
          · skip
            replace h := (if_neg c_38).symm.trans h
            refine lv_iconst (v := 0) hx hb dX12_begins_45 (by decide) ?_
            exact B_46 0 h _ _ _ hP hD hS (lv_sub hl [] rfl)
          · skip
            replace h := (if_pos c_38).symm.trans h
            exact B_41  h _ _ _ hP hD hS (lv_sub hl [] rfl)
  · skip
    replace h := (if_pos c_25).symm.trans h
    refine lv_iconst (v := 0) hx hb dX12_begins_7 (by decide) ?_
    have e2 := Option.some.inj h
    exact W.zret (v := 0) hx hb hr (nzN (Or.inl rfl)) (fun t_ ht hW => ⟨⟨0, (), rfl, e2, by rw [ht]; exact hP, hD⟩, hS.F ht⟩) hS.2.2 dX12_begins_8
theorem cw_begins {R : Room} {s : State} {args : Array Value} {y0 : MethodName} {c0 : ByteArray} {n0 : Nat} {r0 : Option FieldType} (hts : ∀ w ∈ wsOf y0 c0 n0 r0, w.before args s = true) {fr : Nat} (h1 : fr + 1 ≤ R.frames) (h2 : 8 + (5 + 11) + 60 * fr ≤ R.locals) : CallW R s args RX12 RX12 417 yX12_begins cX12_begins 5 (some .boolean) (wsOf yX12_begins cX12_begins 5 (some .boolean)) ({ frames := fr, cells := 0, slots := 0, locals := 60 * fr } : Room) 0 0 1 := cwV 1 hts (gd_all (in_V kw_2277 kw_2279 kw_142 kw_191 kc_X12_begins)) rfl rfl rfl (by decide +kernel) ⟨h1, h2⟩
theorem dX12_make_0 : decode cX12_make 0 = .ok (.aload_n 0, 1) := by decide +kernel
theorem dX12_make_1 : decode cX12_make 1 = .ok (.getfield 292, 3) := by decide +kernel
theorem dX12_make_4 : decode cX12_make 4 = .ok (.ifCond .ne 5, 3) := by decide +kernel
theorem dX12_make_7 : decode cX12_make 7 = .ok (.iconst 0, 1) := by decide +kernel
theorem dX12_make_8 : decode cX12_make 8 = .ok (.ireturn, 1) := by decide +kernel
theorem dX12_make_9 : decode cX12_make 9 = .ok (.aload_n 0, 1) := by decide +kernel
theorem dX12_make_10 : decode cX12_make 10 = .ok (.getfield 378, 3) := by decide +kernel
theorem dX12_make_13 : decode cX12_make 13 = .ok (.bipush 120, 2) := by decide +kernel
theorem dX12_make_15 : decode cX12_make 15 = .ok (.if_icmp .ne 13, 3) := by decide +kernel
theorem dX12_make_18 : decode cX12_make 18 = .ok (.aload_n 0, 1) := by decide +kernel
theorem dX12_make_19 : decode cX12_make 19 = .ok (.bipush 7, 2) := by decide +kernel
theorem dX12_make_21 : decode cX12_make 21 = .ok (.iload 6, 2) := by decide +kernel
theorem dX12_make_23 : decode cX12_make 23 = .ok (.invokevirtual 305, 3) := by decide +kernel
theorem dX12_make_26 : decode cX12_make 26 = .ok (.iconst 0, 1) := by decide +kernel
theorem dX12_make_27 : decode cX12_make 27 = .ok (.ireturn, 1) := by decide +kernel
theorem dX12_make_28 : decode cX12_make 28 = .ok (.aload_n 0, 1) := by decide +kernel
theorem dX12_make_29 : decode cX12_make 29 = .ok (.getfield 378, 3) := by decide +kernel
theorem dX12_make_32 : decode cX12_make 32 = .ok (.istore 7, 2) := by decide +kernel
theorem dX12_make_34 : decode cX12_make 34 = .ok (.aload_n 0, 1) := by decide +kernel
theorem dX12_make_35 : decode cX12_make 35 = .ok (.dup, 1) := by decide +kernel
theorem dX12_make_36 : decode cX12_make 36 = .ok (.getfield 378, 3) := by decide +kernel
theorem dX12_make_39 : decode cX12_make 39 = .ok (.iconst 1, 1) := by decide +kernel
theorem dX12_make_40 : decode cX12_make 40 = .ok (.iadd, 1) := by decide +kernel
theorem dX12_make_41 : decode cX12_make 41 = .ok (.putfield 378, 3) := by decide +kernel
theorem dX12_make_44 : decode cX12_make 44 = .ok (.aload_n 0, 1) := by decide +kernel
theorem dX12_make_45 : decode cX12_make 45 = .ok (.getfield 52, 3) := by decide +kernel
theorem dX12_make_48 : decode cX12_make 48 = .ok (.iload 7, 2) := by decide +kernel
theorem dX12_make_50 : decode cX12_make 50 = .ok (.iload_n 1, 1) := by decide +kernel
theorem dX12_make_51 : decode cX12_make 51 = .ok (.iastore, 1) := by decide +kernel
theorem dX12_make_52 : decode cX12_make 52 = .ok (.aload_n 0, 1) := by decide +kernel
theorem dX12_make_53 : decode cX12_make 53 = .ok (.getfield 55, 3) := by decide +kernel
theorem dX12_make_56 : decode cX12_make 56 = .ok (.iload 7, 2) := by decide +kernel
theorem dX12_make_58 : decode cX12_make 58 = .ok (.iload_n 2, 1) := by decide +kernel
theorem dX12_make_59 : decode cX12_make 59 = .ok (.iastore, 1) := by decide +kernel
theorem dX12_make_60 : decode cX12_make 60 = .ok (.aload_n 0, 1) := by decide +kernel
theorem dX12_make_61 : decode cX12_make 61 = .ok (.getfield 58, 3) := by decide +kernel
theorem dX12_make_64 : decode cX12_make 64 = .ok (.iload 7, 2) := by decide +kernel
theorem dX12_make_66 : decode cX12_make 66 = .ok (.iload_n 3, 1) := by decide +kernel
theorem dX12_make_67 : decode cX12_make 67 = .ok (.iastore, 1) := by decide +kernel
theorem dX12_make_68 : decode cX12_make 68 = .ok (.aload_n 0, 1) := by decide +kernel
theorem dX12_make_69 : decode cX12_make 69 = .ok (.getfield 61, 3) := by decide +kernel
theorem dX12_make_72 : decode cX12_make 72 = .ok (.iload 7, 2) := by decide +kernel
theorem dX12_make_74 : decode cX12_make 74 = .ok (.iload 4, 2) := by decide +kernel
theorem dX12_make_76 : decode cX12_make 76 = .ok (.iastore, 1) := by decide +kernel
theorem dX12_make_77 : decode cX12_make 77 = .ok (.aload_n 0, 1) := by decide +kernel
theorem dX12_make_78 : decode cX12_make 78 = .ok (.getfield 64, 3) := by decide +kernel
theorem dX12_make_81 : decode cX12_make 81 = .ok (.iload 7, 2) := by decide +kernel
theorem dX12_make_83 : decode cX12_make 83 = .ok (.iconst 0, 1) := by decide +kernel
theorem dX12_make_84 : decode cX12_make 84 = .ok (.iastore, 1) := by decide +kernel
theorem dX12_make_85 : decode cX12_make 85 = .ok (.aload_n 0, 1) := by decide +kernel
theorem dX12_make_86 : decode cX12_make 86 = .ok (.getfield 67, 3) := by decide +kernel
theorem dX12_make_89 : decode cX12_make 89 = .ok (.iload 7, 2) := by decide +kernel
theorem dX12_make_91 : decode cX12_make 91 = .ok (.lconst 0, 1) := by decide +kernel
theorem dX12_make_92 : decode cX12_make 92 = .ok (.lastore, 1) := by decide +kernel
theorem dX12_make_93 : decode cX12_make 93 = .ok (.aload_n 0, 1) := by decide +kernel
theorem dX12_make_94 : decode cX12_make 94 = .ok (.getfield 70, 3) := by decide +kernel
theorem dX12_make_97 : decode cX12_make 97 = .ok (.iload 7, 2) := by decide +kernel
theorem dX12_make_99 : decode cX12_make 99 = .ok (.iload 5, 2) := by decide +kernel
theorem dX12_make_101 : decode cX12_make 101 = .ok (.iastore, 1) := by decide +kernel
theorem dX12_make_102 : decode cX12_make 102 = .ok (.aload_n 0, 1) := by decide +kernel
theorem dX12_make_103 : decode cX12_make 103 = .ok (.getfield 73, 3) := by decide +kernel
theorem dX12_make_106 : decode cX12_make 106 = .ok (.iload 7, 2) := by decide +kernel
theorem dX12_make_108 : decode cX12_make 108 = .ok (.iconst 0, 1) := by decide +kernel
theorem dX12_make_109 : decode cX12_make 109 = .ok (.iastore, 1) := by decide +kernel
theorem dX12_make_110 : decode cX12_make 110 = .ok (.aload_n 0, 1) := by decide +kernel
theorem dX12_make_111 : decode cX12_make 111 = .ok (.getfield 79, 3) := by decide +kernel
theorem dX12_make_114 : decode cX12_make 114 = .ok (.iload 7, 2) := by decide +kernel
theorem dX12_make_116 : decode cX12_make 116 = .ok (.iconst (-1), 1) := by decide +kernel
theorem dX12_make_117 : decode cX12_make 117 = .ok (.iastore, 1) := by decide +kernel
theorem dX12_make_118 : decode cX12_make 118 = .ok (.iload 7, 2) := by decide +kernel
theorem dX12_make_120 : decode cX12_make 120 = .ok (.ireturn, 1) := by decide +kernel
def m_make (F : Nat) (cs : RS) (x1 : Int32) (x2 : Int32) (x3 : Int32) (x4 : Int32) (x5 : Int32) (x6 : Int32) : Option (RS × Int32) := if (cs.1 21) = 0 then (some (cs, 0)) else (if (cs.1 22) = 120 then (Option.bind (m_tell F cs 7 x6) fun cs_12 => some (cs_12, 0)) else (Option.bind (wrI (setF cs 22 ((cs.1 22) + 1)) 23 121 (cs.1 22) x1) fun cs_3 => Option.bind (wrI cs_3 24 121 (cs.1 22) x2) fun cs_4 => Option.bind (wrI cs_4 25 121 (cs.1 22) x3) fun cs_5 => Option.bind (wrI cs_5 26 121 (cs.1 22) x4) fun cs_6 => Option.bind (wrI cs_6 27 121 (cs.1 22) 0) fun cs_7 => Option.bind (wrL cs_7 28 121 (cs.1 22) 0) fun cs_8 => Option.bind (wrI cs_8 29 121 (cs.1 22) x5) fun cs_9 => Option.bind (wrI cs_9 30 121 (cs.1 22) 0) fun cs_10 => Option.bind (wrI cs_10 32 121 (cs.1 22) (-1)) fun cs_11 => some (cs_11, cs.1 22)))
set_option maxHeartbeats 4000000 in
set_option maxRecDepth 100000 in
theorem s_make (l : Launch) (dC : Nat → ClassId) (dI : Nat → Nat → Nat) (cB cI cJ cZ : ClassId) (h0 : Nat) (a : Nat → Nat) (K V : Nat → Nat) (fz : Value) (F : Nat) (cs : RS) (x1 : Int32) (x2 : Int32) (x3 : Int32) (x4 : Int32) (x5 : Int32) (x6 : Int32) (cs9 : RS) (r9 : Int32) (hf : m_make F cs x1 x2 x3 x4 x5 x6 = some (cs9, r9)) : okI l dC dI cB cI cJ cZ h0 a K V fz yX12_make (wsOf yX12_make cX12_make 8 (some .int)) (1) [.ref h0, .int x1, .int x2, .int x3, .int x4, .int x5, .int x6] cs cs9 r9 := by
  intro sz
  refine Met.ofW (cc := cX12_make) (maxL := 8) (ret := (some .int)) (by decide) rfl ?_
  intro p e s m args below meth c s₁ B hml hv
  obtain ⟨rfl, hsz, hP, hK, hD0, hZ⟩ := hv
  have hx := B.exec
  have hb := B.bytes
  have hr := B.returns
  have hts := atoms_spec (ws := (wsOf yX12_make cX12_make 8 (some .int))) B.pre
  have hown : s.vm.findClass RX12 = some m.cls := findClass_of_methodNamed B.named
  have hlocks := B.notSynchronized
  subst hsz
  have hD := hD0.self (sz := s.heap.size)
  generalize hAe : va_A (mW cB cI cJ cZ h0 a cs) s.heap.size = A at hD hZ ⊢
  have hA : ∀ q : Nat, s.heap.size ≤ q → A q := fun q h => by rw [← hAe]; exact Or.inr h
  have hS : va_S A s.heap s.heap [] := va_S.rf
  have hl := lv_entry ([.ref h0, .int x1, .int x2, .int x3, .int x4, .int x5, .int x6]) (n := 8) (Nat.le_of_ble_eq_true rfl)
  rw [lg_entry_eq]
  generalize (lg_sl ([.ref h0, .int x1, .int x2, .int x3, .int x4, .int x5, .int x6]) ++ List.replicate (8 - (lg_sl ([.ref h0, .int x1, .int x2, .int x3, .int x4, .int x5, .int x6])).length) Slot.unset).toArray = ls at hl ⊢
  have hl : lv_has ls 8 [(0, .ref h0), (1, .int x1), (2, .int x2), (3, .int x3), (4, .int x4), (5, .int x5), (6, .int x6)] := hl
  have h := hf
  unfold m_make at h
  refine lv_aload_n hx hb dX12_make_0 rfl (lv_at hl 0 rfl) ?_
  refine fg_21 hx hb hts hown hK hP dX12_make_1 ?_
  refine lv_if_ne (tgt := 9) hx hb dX12_make_4 (by decide) (fun c_1 => ?_) (fun c_1 => ?_)
  · skip
    replace h := (if_neg c_1).symm.trans h
    refine lv_aload_n hx hb dX12_make_9 rfl (lv_at hl 0 rfl) ?_
    refine fg_22 hx hb hts hown hK hP dX12_make_10 ?_
    refine lv_bipush (v := 120) hx hb dX12_make_13 (by decide) ?_
    refine lv_icmp_ne (tgt := 28) hx hb dX12_make_15 (by decide) (fun c_2 => ?_) (fun c_2 => ?_)
    · skip
      replace h := (if_neg c_2).symm.trans h
      refine lv_aload_n hx hb dX12_make_28 rfl (lv_at hl 0 rfl) ?_
      refine fg_22 hx hb hts hown hK hP dX12_make_29 ?_
      refine lv_istore (lv' := [(7, .int (cs.1 22)), (0, .ref h0), (1, .int x1), (2, .int x2), (3, .int x3), (4, .int x4), (5, .int x5), (6, .int x6)]) hx hb dX12_make_32 hl (by decide) rfl (fun ls hl => ?_)
      refine lv_aload_n hx hb dX12_make_34 rfl (lv_at hl 1 rfl) ?_
      refine lv_dup hx hb dX12_make_35 rfl ?_
      refine fg_22 hx hb hts hown hK hP dX12_make_36 ?_
      refine lv_iconst (v := 1) hx hb dX12_make_39 (by decide) ?_
      refine lv_iadd hx hb dX12_make_40 ?_
      refine fp_22 hx hb hts hown hK hP hD hS dX12_make_41 (fun H locs hP hD hS => ?_)
      refine lv_aload_n hx hb dX12_make_44 rfl (lv_at hl 1 rfl) ?_
      refine fg_23 hx hb hts hown hK hP dX12_make_45 ?_
      refine lv_iload hx hb dX12_make_48 (lv_at hl 0 rfl) ?_
      refine lv_iload_n hx hb dX12_make_50 rfl (lv_at hl 2 rfl) ?_
      obtain ⟨cs_3, hv_3, h⟩ := ob h
      refine ap_23 hx hb hK hP hD hS hv_3 dX12_make_51 (fun H locs hP hD hS => ?_)
      refine lv_aload_n hx hb dX12_make_52 rfl (lv_at hl 1 rfl) ?_
      refine fg_24 hx hb hts hown hK hP dX12_make_53 ?_
      refine lv_iload hx hb dX12_make_56 (lv_at hl 0 rfl) ?_
      refine lv_iload_n hx hb dX12_make_58 rfl (lv_at hl 3 rfl) ?_
      obtain ⟨cs_4, hv_4, h⟩ := ob h
      refine ap_24 hx hb hK hP hD hS hv_4 dX12_make_59 (fun H locs hP hD hS => ?_)
      refine lv_aload_n hx hb dX12_make_60 rfl (lv_at hl 1 rfl) ?_
      refine fg_25 hx hb hts hown hK hP dX12_make_61 ?_
      refine lv_iload hx hb dX12_make_64 (lv_at hl 0 rfl) ?_
      refine lv_iload_n hx hb dX12_make_66 rfl (lv_at hl 4 rfl) ?_
      obtain ⟨cs_5, hv_5, h⟩ := ob h
      refine ap_25 hx hb hK hP hD hS hv_5 dX12_make_67 (fun H locs hP hD hS => ?_)
      refine lv_aload_n hx hb dX12_make_68 rfl (lv_at hl 1 rfl) ?_
      refine fg_26 hx hb hts hown hK hP dX12_make_69 ?_
      refine lv_iload hx hb dX12_make_72 (lv_at hl 0 rfl) ?_
      refine lv_iload hx hb dX12_make_74 (lv_at hl 5 rfl) ?_
      obtain ⟨cs_6, hv_6, h⟩ := ob h
      refine ap_26 hx hb hK hP hD hS hv_6 dX12_make_76 (fun H locs hP hD hS => ?_)
      refine lv_aload_n hx hb dX12_make_77 rfl (lv_at hl 1 rfl) ?_
      refine fg_27 hx hb hts hown hK hP dX12_make_78 ?_
      refine lv_iload hx hb dX12_make_81 (lv_at hl 0 rfl) ?_
      refine lv_iconst (v := 0) hx hb dX12_make_83 (by decide) ?_
      obtain ⟨cs_7, hv_7, h⟩ := ob h
      refine ap_27 hx hb hK hP hD hS hv_7 dX12_make_84 (fun H locs hP hD hS => ?_)
      refine lv_aload_n hx hb dX12_make_85 rfl (lv_at hl 1 rfl) ?_
      refine fg_28 hx hb hts hown hK hP dX12_make_86 ?_
      refine lv_iload hx hb dX12_make_89 (lv_at hl 0 rfl) ?_
      refine lv_lconst (v := 0) hx hb dX12_make_91 (by decide) ?_
      obtain ⟨cs_8, hv_8, h⟩ := ob h
      refine ap_28 hx hb hK hP hD hS hv_8 dX12_make_92 (fun H locs hP hD hS => ?_)
      refine lv_aload_n hx hb dX12_make_93 rfl (lv_at hl 1 rfl) ?_
      refine fg_29 hx hb hts hown hK hP dX12_make_94 ?_
      refine lv_iload hx hb dX12_make_97 (lv_at hl 0 rfl) ?_
      refine lv_iload hx hb dX12_make_99 (lv_at hl 6 rfl) ?_
      obtain ⟨cs_9, hv_9, h⟩ := ob h
      refine ap_29 hx hb hK hP hD hS hv_9 dX12_make_101 (fun H locs hP hD hS => ?_)
      refine lv_aload_n hx hb dX12_make_102 rfl (lv_at hl 1 rfl) ?_
      refine fg_30 hx hb hts hown hK hP dX12_make_103 ?_
      refine lv_iload hx hb dX12_make_106 (lv_at hl 0 rfl) ?_
      refine lv_iconst (v := 0) hx hb dX12_make_108 (by decide) ?_
      obtain ⟨cs_10, hv_10, h⟩ := ob h
      refine ap_30 hx hb hK hP hD hS hv_10 dX12_make_109 (fun H locs hP hD hS => ?_)
      refine lv_aload_n hx hb dX12_make_110 rfl (lv_at hl 1 rfl) ?_
      refine fg_32 hx hb hts hown hK hP dX12_make_111 ?_
      refine lv_iload hx hb dX12_make_114 (lv_at hl 0 rfl) ?_
      refine lv_iconst (v := (-1)) hx hb dX12_make_116 (by decide) ?_
      obtain ⟨cs_11, hv_11, h⟩ := ob h
      refine ap_32 hx hb hK hP hD hS hv_11 dX12_make_117 (fun H locs hP hD hS => ?_)
      refine lv_iload hx hb dX12_make_118 (lv_at hl 0 rfl) ?_
      obtain ⟨e1, e2⟩ := Prod.mk.inj (Option.some.inj h)
      rw [e1] at hP hD
      exact W.iret (v := cs.1 22) hx hb hr (fun t_ ht hW => ⟨⟨cs.1 22, (), rfl, e2, by rw [ht]; exact hP, hD⟩, hS.F ht⟩) hS.2.2 dX12_make_120
    · skip
      replace h := (if_pos c_2).symm.trans h
      refine lv_aload_n hx hb dX12_make_18 rfl (lv_at hl 0 rfl) ?_
      refine lv_bipush (v := 7) hx hb dX12_make_19 (by decide) ?_
      refine lv_iload hx hb dX12_make_21 (lv_at hl 6 rfl) ?_
      obtain ⟨cs_12, hv_12, h⟩ := ob h
      refine calV (As := [.int 7, .int x6]) hx hb hml hts hown hK hP hD hS hA hZ (s_tell l dC dI cB cI cJ cZ h0 a K V fz F cs 7 x6 cs_12 hv_12) (cw_tell hts (fr := 0) (Nat.le_of_ble_eq_true rfl) (Nat.le_of_ble_eq_true rfl)) rfl hl.1 (Nat.le_of_ble_eq_true rfl) ⟨Nat.zero_le _, Nat.zero_le _⟩ dX12_make_23 (fun H locs hP hD hS => ?_)
      refine lv_iconst (v := 0) hx hb dX12_make_26 (by decide) ?_
      obtain ⟨e1, e2⟩ := Prod.mk.inj (Option.some.inj h)
      rw [e1] at hP hD
      exact W.iret (v := 0) hx hb hr (fun t_ ht hW => ⟨⟨0, (), rfl, e2, by rw [ht]; exact hP, hD⟩, hS.F ht⟩) hS.2.2 dX12_make_27
  · skip
    replace h := (if_pos c_1).symm.trans h
    refine lv_iconst (v := 0) hx hb dX12_make_7 (by decide) ?_
    obtain ⟨e1, e2⟩ := Prod.mk.inj (Option.some.inj h)
    rw [e1] at hP hD
    exact W.iret (v := 0) hx hb hr (fun t_ ht hW => ⟨⟨0, (), rfl, e2, by rw [ht]; exact hP, hD⟩, hS.F ht⟩) hS.2.2 dX12_make_8
theorem cw_make {R : Room} {s : State} {args : Array Value} {y0 : MethodName} {c0 : ByteArray} {n0 : Nat} {r0 : Option FieldType} (hts : ∀ w ∈ wsOf y0 c0 n0 r0, w.before args s = true) {fr : Nat} (h1 : fr + 1 ≤ R.frames) (h2 : 8 + (8 + 11) + 60 * fr ≤ R.locals) : CallW R s args RX12 RX12 389 yX12_make cX12_make 8 (some .int) (wsOf yX12_make cX12_make 8 (some .int)) ({ frames := fr, cells := 0, slots := 0, locals := 60 * fr } : Room) 0 0 6 := cwV 6 hts (gd_all (in_V kw_2333 kw_2335 kw_153 kw_191 kc_X12_make)) rfl rfl rfl (by decide +kernel) ⟨h1, h2⟩
theorem dX12_columnOf_0 : decode cX12_columnOf 0 = .ok (.aload_n 0, 1) := by decide +kernel
theorem dX12_columnOf_1 : decode cX12_columnOf 1 = .ok (.getfield 302, 3) := by decide +kernel
theorem dX12_columnOf_4 : decode cX12_columnOf 4 = .ok (.istore_n 2, 1) := by decide +kernel
theorem dX12_columnOf_5 : decode cX12_columnOf 5 = .ok (.iconst (-1), 1) := by decide +kernel
theorem dX12_columnOf_6 : decode cX12_columnOf 6 = .ok (.istore_n 3, 1) := by decide +kernel
theorem dX12_columnOf_7 : decode cX12_columnOf 7 = .ok (.aload_n 0, 1) := by decide +kernel
theorem dX12_columnOf_8 : decode cX12_columnOf 8 = .ok (.ldc_w 374, 3) := by decide +kernel
theorem dX12_columnOf_11 : decode cX12_columnOf 11 = .ok (.invokevirtual 326, 3) := by decide +kernel
theorem dX12_columnOf_14 : decode cX12_columnOf 14 = .ok (.ifCond .eq 8, 3) := by decide +kernel
theorem dX12_columnOf_17 : decode cX12_columnOf 17 = .ok (.iconst (-1), 1) := by decide +kernel
theorem dX12_columnOf_18 : decode cX12_columnOf 18 = .ok (.istore_n 3, 1) := by decide +kernel
theorem dX12_columnOf_19 : decode cX12_columnOf 19 = .ok (.goto 37, 3) := by decide +kernel
theorem dX12_columnOf_22 : decode cX12_columnOf 22 = .ok (.aload_n 0, 1) := by decide +kernel
theorem dX12_columnOf_23 : decode cX12_columnOf 23 = .ok (.invokevirtual 450, 3) := by decide +kernel
theorem dX12_columnOf_26 : decode cX12_columnOf 26 = .ok (.istore_n 2, 1) := by decide +kernel
theorem dX12_columnOf_27 : decode cX12_columnOf 27 = .ok (.aload_n 0, 1) := by decide +kernel
theorem dX12_columnOf_28 : decode cX12_columnOf 28 = .ok (.bipush 46, 2) := by decide +kernel
theorem dX12_columnOf_30 : decode cX12_columnOf 30 = .ok (.invokevirtual 335, 3) := by decide +kernel
theorem dX12_columnOf_33 : decode cX12_columnOf 33 = .ok (.ifCond .eq 23, 3) := by decide +kernel
theorem dX12_columnOf_36 : decode cX12_columnOf 36 = .ok (.aload_n 0, 1) := by decide +kernel
theorem dX12_columnOf_37 : decode cX12_columnOf 37 = .ok (.getfield 302, 3) := by decide +kernel
theorem dX12_columnOf_40 : decode cX12_columnOf 40 = .ok (.istore_n 3, 1) := by decide +kernel
theorem dX12_columnOf_41 : decode cX12_columnOf 41 = .ok (.aload_n 0, 1) := by decide +kernel
theorem dX12_columnOf_42 : decode cX12_columnOf 42 = .ok (.ldc_w 374, 3) := by decide +kernel
theorem dX12_columnOf_45 : decode cX12_columnOf 45 = .ok (.invokevirtual 326, 3) := by decide +kernel
theorem dX12_columnOf_48 : decode cX12_columnOf 48 = .ok (.ifCond .ne 8, 3) := by decide +kernel
theorem dX12_columnOf_51 : decode cX12_columnOf 51 = .ok (.aload_n 0, 1) := by decide +kernel
theorem dX12_columnOf_52 : decode cX12_columnOf 52 = .ok (.invokevirtual 450, 3) := by decide +kernel
theorem dX12_columnOf_55 : decode cX12_columnOf 55 = .ok (.istore_n 3, 1) := by decide +kernel
theorem dX12_columnOf_56 : decode cX12_columnOf 56 = .ok (.aload_n 0, 1) := by decide +kernel
theorem dX12_columnOf_57 : decode cX12_columnOf 57 = .ok (.iconst 5, 1) := by decide +kernel
theorem dX12_columnOf_58 : decode cX12_columnOf 58 = .ok (.iconst (-1), 1) := by decide +kernel
theorem dX12_columnOf_59 : decode cX12_columnOf 59 = .ok (.iconst (-1), 1) := by decide +kernel
theorem dX12_columnOf_60 : decode cX12_columnOf 60 = .ok (.iconst (-1), 1) := by decide +kernel
theorem dX12_columnOf_61 : decode cX12_columnOf 61 = .ok (.iload_n 1, 1) := by decide +kernel
theorem dX12_columnOf_62 : decode cX12_columnOf 62 = .ok (.iload_n 1, 1) := by decide +kernel
theorem dX12_columnOf_63 : decode cX12_columnOf 63 = .ok (.invokevirtual 389, 3) := by decide +kernel
theorem dX12_columnOf_66 : decode cX12_columnOf 66 = .ok (.istore 4, 2) := by decide +kernel
theorem dX12_columnOf_68 : decode cX12_columnOf 68 = .ok (.aload_n 0, 1) := by decide +kernel
theorem dX12_columnOf_69 : decode cX12_columnOf 69 = .ok (.getfield 73, 3) := by decide +kernel
theorem dX12_columnOf_72 : decode cX12_columnOf 72 = .ok (.iload 4, 2) := by decide +kernel
theorem dX12_columnOf_74 : decode cX12_columnOf 74 = .ok (.iload_n 2, 1) := by decide +kernel
theorem dX12_columnOf_75 : decode cX12_columnOf 75 = .ok (.iastore, 1) := by decide +kernel
theorem dX12_columnOf_76 : decode cX12_columnOf 76 = .ok (.aload_n 0, 1) := by decide +kernel
theorem dX12_columnOf_77 : decode cX12_columnOf 77 = .ok (.getfield 64, 3) := by decide +kernel
theorem dX12_columnOf_80 : decode cX12_columnOf 80 = .ok (.iload 4, 2) := by decide +kernel
theorem dX12_columnOf_82 : decode cX12_columnOf 82 = .ok (.iload_n 3, 1) := by decide +kernel
theorem dX12_columnOf_83 : decode cX12_columnOf 83 = .ok (.iastore, 1) := by decide +kernel
theorem dX12_columnOf_84 : decode cX12_columnOf 84 = .ok (.iload 4, 2) := by decide +kernel
theorem dX12_columnOf_86 : decode cX12_columnOf 86 = .ok (.ireturn, 1) := by decide +kernel
def m_columnOf_b56 (F : Nat) (cs1 : RS) (u1 : Int32) (u2 : Int32) (u3 : Int32) : Option (RS × Int32) := Option.bind (m_make F cs1 5 (-1) (-1) (-1) u1 u1) fun z_1 => Option.bind (wrI z_1.1 30 121 z_1.2 u2) fun cs_2 => Option.bind (wrI cs_2 27 121 z_1.2 u3) fun cs_3 => some (cs_3, z_1.2)
def m_columnOf (F : Nat) (cs : RS) (x1 : Int32) : Option (RS × Int32) := Option.bind (m_takeWord F cs 14) fun z_4 => if z_4.2 = 0 then (Option.bind (m_name F z_4.1 ) fun z_6 => Option.bind (m_takeSign F z_6.1 46) fun z_7 => if z_7.2 = 0 then (m_columnOf_b56 F z_7.1 x1 z_6.2 (-1)) else (Option.bind (m_takeWord F z_7.1 14) fun z_9 => if z_9.2 = 0 then (Option.bind (m_name F z_9.1 ) fun z_11 => m_columnOf_b56 F z_11.1 x1 z_6.2 z_11.2) else (m_columnOf_b56 F z_9.1 x1 z_6.2 (z_7.1.1 18)))) else (m_columnOf_b56 F z_4.1 x1 (cs.1 18) (-1))
set_option maxHeartbeats 4000000 in
set_option maxRecDepth 100000 in
theorem s_columnOf (l : Launch) (dC : Nat → ClassId) (dI : Nat → Nat → Nat) (cB cI cJ cZ : ClassId) (h0 : Nat) (a : Nat → Nat) (K V : Nat → Nat) (fz : Value) (F : Nat) (cs : RS) (x1 : Int32) (cs9 : RS) (r9 : Int32) (hf : m_columnOf F cs x1 = some (cs9, r9)) : okI l dC dI cB cI cJ cZ h0 a K V fz yX12_columnOf (wsOf yX12_columnOf cX12_columnOf 5 (some .int)) (9) [.ref h0, .int x1] cs cs9 r9 := by
  intro sz
  refine Met.ofW (cc := cX12_columnOf) (maxL := 5) (ret := (some .int)) (by decide) rfl ?_
  intro p e s m args below meth c s₁ B hml hv
  obtain ⟨rfl, hsz, hP, hK, hD0, hZ⟩ := hv
  have hx := B.exec
  have hb := B.bytes
  have hr := B.returns
  have hts := atoms_spec (ws := (wsOf yX12_columnOf cX12_columnOf 5 (some .int))) B.pre
  have hown : s.vm.findClass RX12 = some m.cls := findClass_of_methodNamed B.named
  have hlocks := B.notSynchronized
  subst hsz
  have hD := hD0.self (sz := s.heap.size)
  generalize hAe : va_A (mW cB cI cJ cZ h0 a cs) s.heap.size = A at hD hZ ⊢
  have hA : ∀ q : Nat, s.heap.size ≤ q → A q := fun q h => by rw [← hAe]; exact Or.inr h
  have hS : va_S A s.heap s.heap [] := va_S.rf
  have hl := lv_entry ([.ref h0, .int x1]) (n := 5) (Nat.le_of_ble_eq_true rfl)
  rw [lg_entry_eq]
  generalize (lg_sl ([.ref h0, .int x1]) ++ List.replicate (5 - (lg_sl ([.ref h0, .int x1])).length) Slot.unset).toArray = ls at hl ⊢
  have hl : lv_has ls 5 [(0, .ref h0), (1, .int x1)] := hl
  have B_56 : ∀ (cs1 : RS) (u1 : Int32) (u2 : Int32) (u3 : Int32), m_columnOf_b56 F cs1 u1 u2 u3 = some (cs9, r9) → ∀ (H : Heap) (locs : List Loc) (ls : Array Slot), va_P (dC, dI) vwCl (mW cB cI cJ cZ h0 a cs1) H → va_D A (mW cB cI cJ cZ h0 a cs1) → va_S A s.heap H locs → lv_has ls 5 [(0, .ref h0), (1, .int u1), (2, .int u2), (3, .int u3)] → W p l e (headSpec (wsOf yX12_columnOf cX12_columnOf 5 (some .int)) ({ frames := 9, cells := 0, slots := 0, locals := 60 * (9) } : Room)).room s m ([.ref h0, .int x1] : List Value).toArray below meth c H locs 0 0 (MQ below (va_Qi (fun (x : Int32) (_ : Unit) => x = r9) (fun _ t_ => va_P (dC, dI) vwCl (mW cB cI cJ cZ h0 a cs9) t_.heap ∧ va_D A (mW cB cI cJ cZ h0 a cs9)) A) ([.ref h0, .int x1] : List Value).toArray s 0 0 A) (F0 m 56 ls []) := by
    intro cs1 u1 u2 u3 h H locs ls hP hD hS hl
    unfold m_columnOf_b56 at h
    refine lv_aload_n hx hb dX12_columnOf_56 rfl (lv_at hl 0 rfl) ?_
    refine lv_iconst (v := 5) hx hb dX12_columnOf_57 (by decide) ?_
    refine lv_iconst (v := (-1)) hx hb dX12_columnOf_58 (by decide) ?_
    refine lv_iconst (v := (-1)) hx hb dX12_columnOf_59 (by decide) ?_
    refine lv_iconst (v := (-1)) hx hb dX12_columnOf_60 (by decide) ?_
    refine lv_iload_n hx hb dX12_columnOf_61 rfl (lv_at hl 1 rfl) ?_
    refine lv_iload_n hx hb dX12_columnOf_62 rfl (lv_at hl 1 rfl) ?_
    obtain ⟨z_1, hv_1, h⟩ := ob h
    refine calI (As := [.int 5, .int (-1), .int (-1), .int (-1), .int u1, .int u1]) hx hb hml hts hown hK hP hD hS hA hZ (s_make l dC dI cB cI cJ cZ h0 a K V fz F cs1 5 (-1) (-1) (-1) u1 u1 z_1.1 z_1.2 hv_1) (cw_make hts (fr := 1) (Nat.le_of_ble_eq_true rfl) (Nat.le_of_ble_eq_true rfl)) rfl hl.1 (Nat.le_of_ble_eq_true rfl) ⟨Nat.zero_le _, Nat.zero_le _⟩ dX12_columnOf_63 (fun H locs hP hD hS => ?_)
    refine lv_istore (lv' := [(4, .int z_1.2), (0, .ref h0), (1, .int u1), (2, .int u2), (3, .int u3)]) hx hb dX12_columnOf_66 hl (by decide) rfl (fun ls hl => ?_)
    refine lv_aload_n hx hb dX12_columnOf_68 rfl (lv_at hl 1 rfl) ?_
    refine fg_30 hx hb hts hown hK hP dX12_columnOf_69 ?_
    refine lv_iload hx hb dX12_columnOf_72 (lv_at hl 0 rfl) ?_
    refine lv_iload_n hx hb dX12_columnOf_74 rfl (lv_at hl 3 rfl) ?_
    obtain ⟨cs_2, hv_2, h⟩ := ob h
    refine ap_30 hx hb hK hP hD hS hv_2 dX12_columnOf_75 (fun H locs hP hD hS => ?_)
    refine lv_aload_n hx hb dX12_columnOf_76 rfl (lv_at hl 1 rfl) ?_
    refine fg_27 hx hb hts hown hK hP dX12_columnOf_77 ?_
    refine lv_iload hx hb dX12_columnOf_80 (lv_at hl 0 rfl) ?_
    refine lv_iload_n hx hb dX12_columnOf_82 rfl (lv_at hl 4 rfl) ?_
    obtain ⟨cs_3, hv_3, h⟩ := ob h
    refine ap_27 hx hb hK hP hD hS hv_3 dX12_columnOf_83 (fun H locs hP hD hS => ?_)
    refine lv_iload hx hb dX12_columnOf_84 (lv_at hl 0 rfl) ?_
    obtain ⟨e1, e2⟩ := Prod.mk.inj (Option.some.inj h)
    rw [e1] at hP hD
    exact W.iret (v := z_1.2) hx hb hr (fun t_ ht hW => ⟨⟨z_1.2, (), rfl, e2, by rw [ht]; exact hP, hD⟩, hS.F ht⟩) hS.2.2 dX12_columnOf_86
  have h := hf
  unfold m_columnOf at h
  refine lv_aload_n hx hb dX12_columnOf_0 rfl (lv_at hl 0 rfl) ?_
  refine fg_18 hx hb hts hown hK hP dX12_columnOf_1 ?_
  refine lv_istore_n (lv' := [(2, .int (cs.1 18)), (0, .ref h0), (1, .int x1)]) hx hb dX12_columnOf_4 rfl hl (by decide) rfl (fun ls hl => ?_)
  refine lv_iconst (v := (-1)) hx hb dX12_columnOf_5 (by decide) ?_
  refine lv_istore_n (lv' := [(3, .int (-1)), (2, .int (cs.1 18)), (0, .ref h0), (1, .int x1)]) hx hb dX12_columnOf_6 rfl hl (by decide) rfl (fun ls hl => ?_)
  refine lv_aload_n hx hb dX12_columnOf_7 rfl (lv_at hl 2 rfl) ?_
  refine va_ldcSW (own := RX12) (index := 374) (tx := soT 14) (q := K 14) hx hb hown (hZ.ref 14 (by decide)) dX12_columnOf_8 ?_
  obtain ⟨z_4, hv_4, h⟩ := ob h
  refine calI (As := [.ref (K 14)]) hx hb hml hts hown hK hP hD hS hA hZ (s_takeWord l dC dI cB cI cJ cZ h0 a K V fz F cs 14 (by decide) z_4.1 z_4.2 hv_4) (cw_takeWord hts (fr := 8) (Nat.le_of_ble_eq_true rfl) (Nat.le_of_ble_eq_true rfl)) rfl hl.1 (Nat.le_of_ble_eq_true rfl) ⟨Nat.zero_le _, Nat.zero_le _⟩ dX12_columnOf_11 (fun H locs hP hD hS => ?_)
  refine lv_if_eq (tgt := 22) hx hb dX12_columnOf_14 (by decide) (fun c_5 => ?_) (fun c_5 => ?_)
  · skip
    replace h := (if_pos c_5).symm.trans h
    refine lv_aload_n hx hb dX12_columnOf_22 rfl (lv_at hl 2 rfl) ?_
    obtain ⟨z_6, hv_6, h⟩ := ob h
    refine calI (As := []) hx hb hml hts hown hK hP hD hS hA hZ (s_name l dC dI cB cI cJ cZ h0 a K V fz F z_4.1  z_6.1 z_6.2 hv_6) (cw_name hts (fr := 8) (Nat.le_of_ble_eq_true rfl) (Nat.le_of_ble_eq_true rfl)) rfl hl.1 (Nat.le_of_ble_eq_true rfl) ⟨Nat.zero_le _, Nat.zero_le _⟩ dX12_columnOf_23 (fun H locs hP hD hS => ?_)
    refine lv_istore_n (lv' := [(2, .int z_6.2), (3, .int (-1)), (0, .ref h0), (1, .int x1)]) hx hb dX12_columnOf_26 rfl hl (by decide) rfl (fun ls hl => ?_)
    refine lv_aload_n hx hb dX12_columnOf_27 rfl (lv_at hl 2 rfl) ?_
    refine lv_bipush (v := 46) hx hb dX12_columnOf_28 (by decide) ?_
    obtain ⟨z_7, hv_7, h⟩ := ob h
    refine calI (As := [.int 46]) hx hb hml hts hown hK hP hD hS hA hZ (s_takeSign l dC dI cB cI cJ cZ h0 a K V fz F z_6.1 46 z_7.1 z_7.2 hv_7) (cw_takeSign hts (fr := 1) (Nat.le_of_ble_eq_true rfl) (Nat.le_of_ble_eq_true rfl)) rfl hl.1 (Nat.le_of_ble_eq_true rfl) ⟨Nat.zero_le _, Nat.zero_le _⟩ dX12_columnOf_30 (fun H locs hP hD hS => ?_)
    refine lv_if_eq (tgt := 56) hx hb dX12_columnOf_33 (by decide) (fun c_8 => ?_) (fun c_8 => ?_)
    · skip
      replace h := (if_pos c_8).symm.trans h
      exact B_56 z_7.1 x1 z_6.2 (-1) h _ _ _ hP hD hS (lv_sub hl [2, 3, 0, 1] rfl)
    · skip
      replace h := (if_neg c_8).symm.trans h
      refine lv_aload_n hx hb dX12_columnOf_36 rfl (lv_at hl 2 rfl) ?_
      refine fg_18 hx hb hts hown hK hP dX12_columnOf_37 ?_
      refine lv_istore_n (lv' := [(3, .int (z_7.1.1 18)), (2, .int z_6.2), (0, .ref h0), (1, .int x1)]) hx hb dX12_columnOf_40 rfl hl (by decide) rfl (fun ls hl => ?_)
      refine lv_aload_n hx hb dX12_columnOf_41 rfl (lv_at hl 2 rfl) ?_
      refine va_ldcSW (own := RX12) (index := 374) (tx := soT 14) (q := K 14) hx hb hown (hZ.ref 14 (by decide)) dX12_columnOf_42 ?_
      obtain ⟨z_9, hv_9, h⟩ := ob h
      refine calI (As := [.ref (K 14)]) hx hb hml hts hown hK hP hD hS hA hZ (s_takeWord l dC dI cB cI cJ cZ h0 a K V fz F z_7.1 14 (by decide) z_9.1 z_9.2 hv_9) (cw_takeWord hts (fr := 8) (Nat.le_of_ble_eq_true rfl) (Nat.le_of_ble_eq_true rfl)) rfl hl.1 (Nat.le_of_ble_eq_true rfl) ⟨Nat.zero_le _, Nat.zero_le _⟩ dX12_columnOf_45 (fun H locs hP hD hS => ?_)
      refine lv_if_ne (tgt := 56) hx hb dX12_columnOf_48 (by decide) (fun c_10 => ?_) (fun c_10 => ?_)
      · skip
        replace h := (if_neg c_10).symm.trans h
        exact B_56 z_9.1 x1 z_6.2 (z_7.1.1 18) h _ _ _ hP hD hS (lv_sub hl [2, 3, 1, 0] rfl)
      · skip
        replace h := (if_pos c_10).symm.trans h
        refine lv_aload_n hx hb dX12_columnOf_51 rfl (lv_at hl 2 rfl) ?_
        obtain ⟨z_11, hv_11, h⟩ := ob h
        refine calI (As := []) hx hb hml hts hown hK hP hD hS hA hZ (s_name l dC dI cB cI cJ cZ h0 a K V fz F z_9.1  z_11.1 z_11.2 hv_11) (cw_name hts (fr := 8) (Nat.le_of_ble_eq_true rfl) (Nat.le_of_ble_eq_true rfl)) rfl hl.1 (Nat.le_of_ble_eq_true rfl) ⟨Nat.zero_le _, Nat.zero_le _⟩ dX12_columnOf_52 (fun H locs hP hD hS => ?_)
        refine lv_istore_n (lv' := [(3, .int z_11.2), (2, .int z_6.2), (0, .ref h0), (1, .int x1)]) hx hb dX12_columnOf_55 rfl hl (by decide) rfl (fun ls hl => ?_)
        exact B_56 z_11.1 x1 z_6.2 z_11.2 h _ _ _ hP hD hS (lv_sub hl [2, 3, 1, 0] rfl)
  · skip
    replace h := (if_neg c_5).symm.trans h
    refine lv_iconst (v := (-1)) hx hb dX12_columnOf_17 (by decide) ?_
    refine lv_istore_n (lv' := [(3, .int (-1)), (2, .int (cs.1 18)), (0, .ref h0), (1, .int x1)]) hx hb dX12_columnOf_18 rfl hl (by decide) rfl (fun ls hl => ?_)
    refine lv_goto (tgt := 56) hx hb dX12_columnOf_19 (by decide) ?_
    exact B_56 z_4.1 x1 (cs.1 18) (-1) h _ _ _ hP hD hS (lv_sub hl [2, 3, 1, 0] rfl)
theorem cw_columnOf {R : Room} {s : State} {args : Array Value} {y0 : MethodName} {c0 : ByteArray} {n0 : Nat} {r0 : Option FieldType} (hts : ∀ w ∈ wsOf y0 c0 n0 r0, w.before args s = true) {fr : Nat} (h1 : fr + 1 ≤ R.frames) (h2 : 8 + (5 + 11) + 60 * fr ≤ R.locals) : CallW R s args RX12 RX12 444 yX12_columnOf cX12_columnOf 5 (some .int) (wsOf yX12_columnOf cX12_columnOf 5 (some .int)) ({ frames := fr, cells := 0, slots := 0, locals := 60 * fr } : Room) 0 0 1 := cwV 1 hts (gd_all (in_V kw_2357 kw_2359 kw_158 kw_191 kc_X12_columnOf)) rfl rfl rfl (by decide +kernel) ⟨h1, h2⟩
