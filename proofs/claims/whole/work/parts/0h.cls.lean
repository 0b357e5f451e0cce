/-! the class, mirrored -/
theorem dX7_exists_0 : decode cX7_exists 0 = .ok (.iload_n 1, 1) := by decide +kernel
theorem dX7_exists_1 : decode cX7_exists 1 = .ok (.ifCond .lt 24, 3) := by decide +kernel
theorem dX7_exists_4 : decode cX7_exists 4 = .ok (.iload_n 1, 1) := by decide +kernel
theorem dX7_exists_5 : decode cX7_exists 5 = .ok (.aload_n 0, 1) := by decide +kernel
theorem dX7_exists_6 : decode cX7_exists 6 = .ok (.getfield 40, 3) := by decide +kernel
theorem dX7_exists_9 : decode cX7_exists 9 = .ok (.if_icmp .ge 16, 3) := by decide +kernel
theorem dX7_exists_12 : decode cX7_exists 12 = .ok (.iload_n 1, 1) := by decide +kernel
theorem dX7_exists_13 : decode cX7_exists 13 = .ok (.aload_n 0, 1) := by decide +kernel
theorem dX7_exists_14 : decode cX7_exists 14 = .ok (.getfield 19, 3) := by decide +kernel
theorem dX7_exists_17 : decode cX7_exists 17 = .ok (.arraylength, 1) := by decide +kernel
theorem dX7_exists_18 : decode cX7_exists 18 = .ok (.if_icmp .ge 7, 3) := by decide +kernel
theorem dX7_exists_21 : decode cX7_exists 21 = .ok (.iconst 1, 1) := by decide +kernel
theorem dX7_exists_22 : decode cX7_exists 22 = .ok (.goto 4, 3) := by decide +kernel
theorem dX7_exists_25 : decode cX7_exists 25 = .ok (.iconst 0, 1) := by decide +kernel
theorem dX7_exists_26 : decode cX7_exists 26 = .ok (.ireturn, 1) := by decide +kernel
def c_X7_exists_b26 (F : Nat) (cs : CS) (y0 : Int32) : Option Int32 := Option.bind (ckZ y0) fun _ => some y0
def c_X7_exists_b25 (F : Nat) (cs : CS) : Option Int32 := c_X7_exists_b26 F cs 0
def c_X7_exists (F : Nat) (cs : CS) (x0 : Nat) (x1 : Int32) : Option Int32 := if x1 < 0 then (c_X7_exists_b25 F cs ) else (Option.bind (gI cs 8 256 x0) fun v_3 => if v_3 ≤ x1 then (c_X7_exists_b25 F cs ) else (Option.bind (gA cs 8 258 x0) fun v_5 => Option.bind (lnA cs 258 x0 v_5) fun v_6 => if v_6 ≤ x1 then (c_X7_exists_b25 F cs ) else (c_X7_exists_b26 F cs 1)))
theorem cw_X0_X7_exists {R : Room} {s : State} {args : Array Value} {y0 : MethodName} {c0 : ByteArray} {n0 : Nat} {r0 : Option FieldType} (hts : ∀ w ∈ wsOf y0 c0 n0 r0, w.before args s = true) {fr : Nat} (h1 : fr + 1 ≤ R.frames) (h2 : 8 + (2 + 11) + 60 * fr ≤ R.locals) : CallW R s args RX0 RX7 194 yX7_exists cX7_exists 2 (some .boolean) (wsOf yX7_exists cX7_exists 2 (some .boolean)) ({ frames := fr, cells := 0, slots := 0, locals := 60 * fr } : Room) 0 0 1 := cwV 1 hts (gd_all (in_V kw_1228 kw_1229 kw_1230 kw_182 kc_X7_exists)) rfl rfl rfl (by decide +kernel) ⟨h1, h2⟩
theorem cw_X7_X7_exists {R : Room} {s : State} {args : Array Value} {y0 : MethodName} {c0 : ByteArray} {n0 : Nat} {r0 : Option FieldType} (hts : ∀ w ∈ wsOf y0 c0 n0 r0, w.before args s = true) {fr : Nat} (h1 : fr + 1 ≤ R.frames) (h2 : 8 + (2 + 11) + 60 * fr ≤ R.locals) : CallW R s args RX7 RX7 44 yX7_exists cX7_exists 2 (some .boolean) (wsOf yX7_exists cX7_exists 2 (some .boolean)) ({ frames := fr, cells := 0, slots := 0, locals := 60 * fr } : Room) 0 0 1 := cwV 1 hts (gd_all (in_V kw_1236 kw_1229 kw_1230 kw_182 kc_X7_exists)) rfl rfl rfl (by decide +kernel) ⟨h1, h2⟩
set_option maxHeartbeats 4000000 in
set_option maxRecDepth 100000 in
theorem sc_X7_exists (l : Launch) (dC : Nat → ClassId) (dI : Nat → Nat → Nat) (cB cI cJ cZ cS cO : ClassId) (b : Nat) (K V : Nat → Nat) (fz : Value) (F : Nat) (cs : CS) (x0 : Nat) (x1 : Int32) (r9 : Int32) (hf : c_X7_exists F cs x0 x1 = some r9) : ocI l dC dI cB cI cJ cZ cS cO b K V fz yX7_exists (wsOf yX7_exists cX7_exists 2 (some .boolean)) (0) [.ref (b + x0), .int x1] cs cs r9 := by
  intro sz
  refine Met.ofW (cc := cX7_exists) (maxL := 2) (ret := (some .boolean)) (by decide) rfl ?_
  intro p e s m args below meth c s₁ B hml hv
  obtain ⟨rfl, hsz, hP, hK, hD0, hZ⟩ := hv
  have hx := B.exec
  have hb := B.bytes
  have hr := B.returns
  have hts := atoms_spec (ws := (wsOf yX7_exists cX7_exists 2 (some .boolean))) B.pre
  have hown : s.vm.findClass RX7 = some m.cls := findClass_of_methodNamed B.named
  have hlocks := B.notSynchronized
  subst hsz
  have hD := hD0.self (sz := s.heap.size)
  generalize hAe : va_A (cW cB cI cJ cZ cS cO b cs) s.heap.size = A at hD hZ ⊢
  have hA : ∀ q : Nat, s.heap.size ≤ q → A q := fun q h => by rw [← hAe]; exact Or.inr h
  have hS : va_S A s.heap s.heap [] := va_S.rf
  have hl := lv_entry ([.ref (b + x0), .int x1]) (n := 2) (Nat.le_of_ble_eq_true rfl)
  rw [lg_entry_eq]
  generalize (lg_sl ([.ref (b + x0), .int x1]) ++ List.replicate (2 - (lg_sl ([.ref (b + x0), .int x1])).length) Slot.unset).toArray = ls at hl ⊢
  have hl : lv_has ls 2 [(0, .ref (b + x0)), (1, .int x1)] := hl
  have B_26 : ∀ (y0 : Int32), c_X7_exists_b26 F cs y0 = some r9 → ∀ (H : Heap) (locs : List Loc) (ls : Array Slot), va_P (dC, dI) vwCl (cW cB cI cJ cZ cS cO b cs) H → va_D A (cW cB cI cJ cZ cS cO b cs) → va_S A s.heap H locs → lv_has ls 2 [] → W p l e (headSpec (wsOf yX7_exists cX7_exists 2 (some .boolean)) ({ frames := 0, cells := 0, slots := 0, locals := 60 * (0) } : Room)).room s m ([.ref (b + x0), .int x1] : List Value).toArray below meth c H locs 0 0 (MQ below (va_Qi (fun (x : Int32) (_ : Unit) => x = r9) (fun _ t_ => va_P (dC, dI) vwCl (cW cB cI cJ cZ cS cO b cs) t_.heap ∧ va_D A (cW cB cI cJ cZ cS cO b cs)) A) ([.ref (b + x0), .int x1] : List Value).toArray s 0 0 A) (F0 m 26 ls [.int y0]) := by
    intro y0 h H locs ls hP hD hS hl
    unfold c_X7_exists_b26 at h
    replace h := ob h; obtain ⟨w_1, hw_1, h⟩ := h
    have e2 := Option.some.inj h
    exact W.zret (v := y0) hx hb hr (nzN (ckZ_some hw_1)) (fun t_ ht hW => ⟨⟨y0, (), rfl, e2, by rw [ht]; exact hP, hD⟩, hS.F ht⟩) hS.2.2 dX7_exists_26
  have B_25 : c_X7_exists_b25 F cs = some r9 → ∀ (H : Heap) (locs : List Loc) (ls : Array Slot), va_P (dC, dI) vwCl (cW cB cI cJ cZ cS cO b cs) H → va_D A (cW cB cI cJ cZ cS cO b cs) → va_S A s.heap H locs → lv_has ls 2 [] → W p l e (headSpec (wsOf yX7_exists cX7_exists 2 (some .boolean)) ({ frames := 0, cells := 0, slots := 0, locals := 60 * (0) } : Room)).room s m ([.ref (b + x0), .int x1] : List Value).toArray below meth c H locs 0 0 (MQ below (va_Qi (fun (x : Int32) (_ : Unit) => x = r9) (fun _ t_ => va_P (dC, dI) vwCl (cW cB cI cJ cZ cS cO b cs) t_.heap ∧ va_D A (cW cB cI cJ cZ cS cO b cs)) A) ([.ref (b + x0), .int x1] : List Value).toArray s 0 0 A) (F0 m 25 ls []) := by
    intro  h H locs ls hP hD hS hl
    unfold c_X7_exists_b25 at h
    refine lv_iconst (v := 0) hx hb dX7_exists_25 (by decide) ?_
    exact B_26 0 h _ _ _ hP hD hS (lv_sub hl [] rfl)
  have h := hf
  unfold c_X7_exists at h
  refine lv_iload_n hx hb dX7_exists_0 rfl (lv_at hl 1 rfl) ?_
  refine lv_if_lt (tgt := 25) hx hb dX7_exists_1 (by decide) (fun c_2 => ?_) (fun c_2 => ?_)
  · skip
    replace h := (if_pos c_2).symm.trans h
    exact B_25  h _ _ _ hP hD hS (lv_sub hl [] rfl)
  · skip
    replace h := (if_neg c_2).symm.trans h
    refine lv_iload_n hx hb dX7_exists_4 rfl (lv_at hl 1 rfl) ?_
    refine lv_aload_n hx hb dX7_exists_5 rfl (lv_at hl 0 rfl) ?_
    replace h := ob h; obtain ⟨v_3, hv_3, h⟩ := h
    refine fg_X7_40 hx hb hts hown hK hP hv_3 dX7_exists_6 ?_
    refine lv_icmp_ge (tgt := 25) hx hb dX7_exists_9 (by decide) (fun c_4 => ?_) (fun c_4 => ?_)
    · skip
      replace h := (if_pos c_4).symm.trans h
      exact B_25  h _ _ _ hP hD hS (lv_sub hl [] rfl)
    · skip
      replace h := (if_neg c_4).symm.trans h
      refine lv_iload_n hx hb dX7_exists_12 rfl (lv_at hl 1 rfl) ?_
      refine lv_aload_n hx hb dX7_exists_13 rfl (lv_at hl 0 rfl) ?_
      replace h := ob h; obtain ⟨v_5, hv_5, h⟩ := h
      refine fg_X7_19 hx hb hts hown hK hP hv_5 dX7_exists_14 ?_
      replace h := ob h; obtain ⟨v_6, hv_6, h⟩ := h
      refine alen0 hx hb hK hP rfl hv_6 dX7_exists_17 ?_
      refine lv_icmp_ge (tgt := 25) hx hb dX7_exists_18 (by decide) (fun c_7 => ?_) (fun c_7 => ?_)
      · skip
        replace h := (if_pos c_7).symm.trans h
        exact B_25  h _ _ _ hP hD hS (lv_sub hl [] rfl)
      · skip
        replace h := (if_neg c_7).symm.trans h
        refine lv_iconst (v := 1) hx hb dX7_exists_21 (by decide) ?_
        refine lv_goto (tgt := 26) hx hb dX7_exists_22 (by decide) ?_
        exact B_26 1 h _ _ _ hP hD hS (lv_sub hl [] rfl)
theorem dX7_columnCount_0 : decode cX7_columnCount 0 = .ok (.aload_n 0, 1) := by decide +kernel
theorem dX7_columnCount_1 : decode cX7_columnCount 1 = .ok (.iload_n 1, 1) := by decide +kernel
theorem dX7_columnCount_2 : decode cX7_columnCount 2 = .ok (.invokevirtual 44, 3) := by decide +kernel
theorem dX7_columnCount_5 : decode cX7_columnCount 5 = .ok (.ifCond .eq 12, 3) := by decide +kernel
theorem dX7_columnCount_8 : decode cX7_columnCount 8 = .ok (.aload_n 0, 1) := by decide +kernel
theorem dX7_columnCount_9 : decode cX7_columnCount 9 = .ok (.getfield 19, 3) := by decide +kernel
theorem dX7_columnCount_12 : decode cX7_columnCount 12 = .ok (.iload_n 1, 1) := by decide +kernel
theorem dX7_columnCount_13 : decode cX7_columnCount 13 = .ok (.iaload, 1) := by decide +kernel
theorem dX7_columnCount_14 : decode cX7_columnCount 14 = .ok (.goto 4, 3) := by decide +kernel
theorem dX7_columnCount_17 : decode cX7_columnCount 17 = .ok (.iconst 0, 1) := by decide +kernel
theorem dX7_columnCount_18 : decode cX7_columnCount 18 = .ok (.ireturn, 1) := by decide +kernel
def c_X7_columnCount_b18 (F : Nat) (cs : CS) (y0 : Int32) : Option Int32 := some y0
def c_X7_columnCount (F : Nat) (cs : CS) (x0 : Nat) (x1 : Int32) : Option Int32 := Option.bind (ckE cs 8 x0) fun _ => Option.bind (c_X7_exists F cs x0 x1) fun v_1 => if v_1 = 0 then (c_X7_columnCount_b18 F cs 0) else (Option.bind (gA cs 8 258 x0) fun v_4 => Option.bind (rA cs 258 x0 v_4 x1) fun v_5 => c_X7_columnCount_b18 F cs v_5)
theorem cw_X0_X7_columnCount {R : Room} {s : State} {args : Array Value} {y0 : MethodName} {c0 : ByteArray} {n0 : Nat} {r0 : Option FieldType} (hts : ∀ w ∈ wsOf y0 c0 n0 r0, w.before args s = true) {fr : Nat} (h1 : fr + 1 ≤ R.frames) (h2 : 8 + (2 + 11) + 60 * fr ≤ R.locals) : CallW R s args RX0 RX7 203 yX7_columnCount cX7_columnCount 2 (some .int) (wsOf yX7_columnCount cX7_columnCount 2 (some .int)) ({ frames := fr, cells := 0, slots := 0, locals := 60 * fr } : Room) 0 0 1 := cwV 1 hts (gd_all (in_V kw_1232 kw_1233 kw_1234 kw_182 kc_X7_columnCount)) rfl rfl rfl (by decide +kernel) ⟨h1, h2⟩
theorem cw_X7_X7_columnCount {R : Room} {s : State} {args : Array Value} {y0 : MethodName} {c0 : ByteArray} {n0 : Nat} {r0 : Option FieldType} (hts : ∀ w ∈ wsOf y0 c0 n0 r0, w.before args s = true) {fr : Nat} (h1 : fr + 1 ≤ R.frames) (h2 : 8 + (2 + 11) + 60 * fr ≤ R.locals) : CallW R s args RX7 RX7 51 yX7_columnCount cX7_columnCount 2 (some .int) (wsOf yX7_columnCount cX7_columnCount 2 (some .int)) ({ frames := fr, cells := 0, slots := 0, locals := 60 * fr } : Room) 0 0 1 := cwV 1 hts (gd_all (in_V kw_1589 kw_1233 kw_1234 kw_182 kc_X7_columnCount)) rfl rfl rfl (by decide +kernel) ⟨h1, h2⟩
set_option maxHeartbeats 4000000 in
set_option maxRecDepth 100000 in
theorem sc_X7_columnCount (l : Launch) (dC : Nat → ClassId) (dI : Nat → Nat → Nat) (cB cI cJ cZ cS cO : ClassId) (b : Nat) (K V : Nat → Nat) (fz : Value) (F : Nat) (cs : CS) (x0 : Nat) (x1 : Int32) (r9 : Int32) (hf : c_X7_columnCount F cs x0 x1 = some r9) : ocI l dC dI cB cI cJ cZ cS cO b K V fz yX7_columnCount (wsOf yX7_columnCount cX7_columnCount 2 (some .int)) (1) [.ref (b + x0), .int x1] cs cs r9 := by
  intro sz
  refine Met.ofW (cc := cX7_columnCount) (maxL := 2) (ret := (some .int)) (by decide) rfl ?_
  intro p e s m args below meth c s₁ B hml hv
  obtain ⟨rfl, hsz, hP, hK, hD0, hZ⟩ := hv
  have hx := B.exec
  have hb := B.bytes
  have hr := B.returns
  have hts := atoms_spec (ws := (wsOf yX7_columnCount cX7_columnCount 2 (some .int))) B.pre
  have hown : s.vm.findClass RX7 = some m.cls := findClass_of_methodNamed B.named
  have hlocks := B.notSynchronized
  subst hsz
  have hD := hD0.self (sz := s.heap.size)
  generalize hAe : va_A (cW cB cI cJ cZ cS cO b cs) s.heap.size = A at hD hZ ⊢
  have hA : ∀ q : Nat, s.heap.size ≤ q → A q := fun q h => by rw [← hAe]; exact Or.inr h
  have hS : va_S A s.heap s.heap [] := va_S.rf
  have hl := lv_entry ([.ref (b + x0), .int x1]) (n := 2) (Nat.le_of_ble_eq_true rfl)
  rw [lg_entry_eq]
  generalize (lg_sl ([.ref (b + x0), .int x1]) ++ List.replicate (2 - (lg_sl ([.ref (b + x0), .int x1])).length) Slot.unset).toArray = ls at hl ⊢
  have hl : lv_has ls 2 [(0, .ref (b + x0)), (1, .int x1)] := hl
  have B_18 : ∀ (y0 : Int32), c_X7_columnCount_b18 F cs y0 = some r9 → ∀ (H : Heap) (locs : List Loc) (ls : Array Slot), va_P (dC, dI) vwCl (cW cB cI cJ cZ cS cO b cs) H → va_D A (cW cB cI cJ cZ cS cO b cs) → va_S A s.heap H locs → lv_has ls 2 [] → W p l e (headSpec (wsOf yX7_columnCount cX7_columnCount 2 (some .int)) ({ frames := 1, cells := 0, slots := 0, locals := 60 * (1) } : Room)).room s m ([.ref (b + x0), .int x1] : List Value).toArray below meth c H locs 0 0 (MQ below (va_Qi (fun (x : Int32) (_ : Unit) => x = r9) (fun _ t_ => va_P (dC, dI) vwCl (cW cB cI cJ cZ cS cO b cs) t_.heap ∧ va_D A (cW cB cI cJ cZ cS cO b cs)) A) ([.ref (b + x0), .int x1] : List Value).toArray s 0 0 A) (F0 m 18 ls [.int y0]) := by
    intro y0 h H locs ls hP hD hS hl
    unfold c_X7_columnCount_b18 at h
    have e2 := Option.some.inj h
    exact W.iret (v := y0) hx hb hr (fun t_ ht hW => ⟨⟨y0, (), rfl, e2, by rw [ht]; exact hP, hD⟩, hS.F ht⟩) hS.2.2 dX7_columnCount_18
  have h := hf
  unfold c_X7_columnCount at h
  refine lv_aload_n hx hb dX7_columnCount_0 rfl (lv_at hl 0 rfl) ?_
  refine lv_iload_n hx hb dX7_columnCount_1 rfl (lv_at hl 1 rfl) ?_
  replace h := ob h; obtain ⟨w_2, hw_2, h⟩ := h
  replace h := ob h; obtain ⟨v_1, hv_1, h⟩ := h
  refine ccI (As := [.int x1]) hx hb hml hts hown hK hP hD hS hA hZ (X := 8) (by decide) rfl (ckE_some hw_2) (sc_X7_exists l dC dI cB cI cJ cZ cS cO b K V fz F cs x0 x1 v_1 hv_1) (cw_X7_X7_exists hts (fr := 0) (Nat.le_of_ble_eq_true rfl) (Nat.le_of_ble_eq_true rfl)) rfl hl.1 (Nat.le_of_ble_eq_true rfl) ⟨Nat.zero_le _, Nat.zero_le _⟩ dX7_columnCount_2 (fun H locs hP hD hS => ?_)
  refine lv_if_eq (tgt := 17) hx hb dX7_columnCount_5 (by decide) (fun c_3 => ?_) (fun c_3 => ?_)
  · skip
    replace h := (if_pos c_3).symm.trans h
    refine lv_iconst (v := 0) hx hb dX7_columnCount_17 (by decide) ?_
    exact B_18 0 h _ _ _ hP hD hS (lv_sub hl [] rfl)
  · skip
    replace h := (if_neg c_3).symm.trans h
    refine lv_aload_n hx hb dX7_columnCount_8 rfl (lv_at hl 0 rfl) ?_
    replace h := ob h; obtain ⟨v_4, hv_4, h⟩ := h
    refine fg_X7_19 hx hb hts hown hK hP hv_4 dX7_columnCount_9 ?_
    refine lv_iload_n hx hb dX7_columnCount_12 rfl (lv_at hl 1 rfl) ?_
    replace h := ob h; obtain ⟨v_5, hv_5, h⟩ := h
    refine ald0 hx hb hK hP rfl hv_5 dX7_columnCount_13 ?_
    refine lv_goto (tgt := 18) hx hb dX7_columnCount_14 (by decide) ?_
    exact B_18 v_5 h _ _ _ hP hD hS (lv_sub hl [] rfl)
theorem dX7_open_0 : decode cX7_open 0 = .ok (.iload_n 1, 1) := by decide +kernel
theorem dX7_open_1 : decode cX7_open 1 = .ok (.iconst 1, 1) := by decide +kernel
theorem dX7_open_2 : decode cX7_open 2 = .ok (.if_icmp .lt 20, 3) := by decide +kernel
theorem dX7_open_5 : decode cX7_open 5 = .ok (.iload_n 1, 1) := by decide +kernel
theorem dX7_open_6 : decode cX7_open 6 = .ok (.iconst 4, 1) := by decide +kernel
theorem dX7_open_7 : decode cX7_open 7 = .ok (.if_icmp .gt 15, 3) := by decide +kernel
theorem dX7_open_10 : decode cX7_open 10 = .ok (.aload_n 0, 1) := by decide +kernel
theorem dX7_open_11 : decode cX7_open 11 = .ok (.getfield 40, 3) := by decide +kernel
theorem dX7_open_14 : decode cX7_open 14 = .ok (.aload_n 0, 1) := by decide +kernel
theorem dX7_open_15 : decode cX7_open 15 = .ok (.getfield 19, 3) := by decide +kernel
theorem dX7_open_18 : decode cX7_open 18 = .ok (.arraylength, 1) := by decide +kernel
theorem dX7_open_19 : decode cX7_open 19 = .ok (.if_icmp .lt 5, 3) := by decide +kernel
theorem dX7_open_22 : decode cX7_open 22 = .ok (.iconst (-1), 1) := by decide +kernel
theorem dX7_open_23 : decode cX7_open 23 = .ok (.ireturn, 1) := by decide +kernel
theorem dX7_open_24 : decode cX7_open 24 = .ok (.aload_n 0, 1) := by decide +kernel
theorem dX7_open_25 : decode cX7_open 25 = .ok (.getfield 19, 3) := by decide +kernel
theorem dX7_open_28 : decode cX7_open 28 = .ok (.aload_n 0, 1) := by decide +kernel
theorem dX7_open_29 : decode cX7_open 29 = .ok (.getfield 40, 3) := by decide +kernel
theorem dX7_open_32 : decode cX7_open 32 = .ok (.iload_n 1, 1) := by decide +kernel
theorem dX7_open_33 : decode cX7_open 33 = .ok (.iastore, 1) := by decide +kernel
theorem dX7_open_34 : decode cX7_open 34 = .ok (.aload_n 0, 1) := by decide +kernel
theorem dX7_open_35 : decode cX7_open 35 = .ok (.dup, 1) := by decide +kernel
theorem dX7_open_36 : decode cX7_open 36 = .ok (.getfield 40, 3) := by decide +kernel
theorem dX7_open_39 : decode cX7_open 39 = .ok (.iconst 1, 1) := by decide +kernel
theorem dX7_open_40 : decode cX7_open 40 = .ok (.iadd, 1) := by decide +kernel
theorem dX7_open_41 : decode cX7_open 41 = .ok (.putfield 40, 3) := by decide +kernel
theorem dX7_open_44 : decode cX7_open 44 = .ok (.aload_n 0, 1) := by decide +kernel
theorem dX7_open_45 : decode cX7_open 45 = .ok (.getfield 40, 3) := by decide +kernel
theorem dX7_open_48 : decode cX7_open 48 = .ok (.iconst 1, 1) := by decide +kernel
theorem dX7_open_49 : decode cX7_open 49 = .ok (.isub, 1) := by decide +kernel
theorem dX7_open_50 : decode cX7_open 50 = .ok (.ireturn, 1) := by decide +kernel
def c_X7_open_b22 (F : Nat) (cs1 : CS) : Option (CS × Int32) := some (cs1, (-1))
def c_X7_open (F : Nat) (cs : CS) (x0 : Nat) (x1 : Int32) : Option (CS × Int32) := if x1 < 1 then (c_X7_open_b22 F cs) else (if 4 < x1 then (c_X7_open_b22 F cs) else (Option.bind (gI cs 8 256 x0) fun v_3 => Option.bind (gA cs 8 258 x0) fun v_4 => Option.bind (lnA cs 258 x0 v_4) fun v_5 => if v_3 < v_5 then (Option.bind (gA cs 8 258 x0) fun v_7 => Option.bind (gI cs 8 256 x0) fun v_8 => Option.bind (wA cs 258 x0 v_7 v_8 x1) fun cs_9 => Option.bind (gI cs_9 8 256 x0) fun v_10 => Option.bind (pI cs_9 8 256 x0 (v_10 + 1)) fun cs_11 => Option.bind (gI cs_11 8 256 x0) fun v_12 => some (cs_11, v_12 - 1)) else (c_X7_open_b22 F cs)))
theorem cw_X11_X7_open {R : Room} {s : State} {args : Array Value} {y0 : MethodName} {c0 : ByteArray} {n0 : Nat} {r0 : Option FieldType} (hts : ∀ w ∈ wsOf y0 c0 n0 r0, w.before args s = true) {fr : Nat} (h1 : fr + 1 ≤ R.frames) (h2 : 8 + (2 + 11) + 60 * fr ≤ R.locals) : CallW R s args RX11 RX7 66 yX7_open cX7_open 2 (some .int) (wsOf yX7_open cX7_open 2 (some .int)) ({ frames := fr, cells := 0, slots := 0, locals := 60 * fr } : Room) 0 0 1 := cwV 1 hts (gd_all (in_V kw_493 kw_494 kw_495 kw_182 kc_X7_open)) rfl rfl rfl (by decide +kernel) ⟨h1, h2⟩
set_option maxHeartbeats 4000000 in
set_option maxRecDepth 100000 in
theorem sc_X7_open (l : Launch) (dC : Nat → ClassId) (dI : Nat → Nat → Nat) (cB cI cJ cZ cS cO : ClassId) (b : Nat) (K V : Nat → Nat) (fz : Value) (F : Nat) (cs : CS) (x0 : Nat) (x1 : Int32) (cs9 : CS) (r9 : Int32) (hf : c_X7_open F cs x0 x1 = some (cs9, r9)) : ocI l dC dI cB cI cJ cZ cS cO b K V fz yX7_open (wsOf yX7_open cX7_open 2 (some .int)) (0) [.ref (b + x0), .int x1] cs cs9 r9 := by
  intro sz
  refine Met.ofW (cc := cX7_open) (maxL := 2) (ret := (some .int)) (by decide) rfl ?_
  intro p e s m args below meth c s₁ B hml hv
  obtain ⟨rfl, hsz, hP, hK, hD0, hZ⟩ := hv
  have hx := B.exec
  have hb := B.bytes
  have hr := B.returns
  have hts := atoms_spec (ws := (wsOf yX7_open cX7_open 2 (some .int))) B.pre
  have hown : s.vm.findClass RX7 = some m.cls := findClass_of_methodNamed B.named
  have hlocks := B.notSynchronized
  subst hsz
  have hD := hD0.self (sz := s.heap.size)
  generalize hAe : va_A (cW cB cI cJ cZ cS cO b cs) s.heap.size = A at hD hZ ⊢
  have hA : ∀ q : Nat, s.heap.size ≤ q → A q := fun q h => by rw [← hAe]; exact Or.inr h
  have hS : va_S A s.heap s.heap [] := va_S.rf
  have hl := lv_entry ([.ref (b + x0), .int x1]) (n := 2) (Nat.le_of_ble_eq_true rfl)
  rw [lg_entry_eq]
  generalize (lg_sl ([.ref (b + x0), .int x1]) ++ List.replicate (2 - (lg_sl ([.ref (b + x0), .int x1])).length) Slot.unset).toArray = ls at hl ⊢
  have hl : lv_has ls 2 [(0, .ref (b + x0)), (1, .int x1)] := hl
  have B_22 : ∀ (cs1 : CS) , c_X7_open_b22 F cs1 = some (cs9, r9) → ∀ (H : Heap) (locs : List Loc) (ls : Array Slot), va_P (dC, dI) vwCl (cW cB cI cJ cZ cS cO b cs1) H → va_D A (cW cB cI cJ cZ cS cO b cs1) → va_S A s.heap H locs → lv_has ls 2 [] → W p l e (headSpec (wsOf yX7_open cX7_open 2 (some .int)) ({ frames := 0, cells := 0, slots := 0, locals := 60 * (0) } : Room)).room s m ([.ref (b + x0), .int x1] : List Value).toArray below meth c H locs 0 0 (MQ below (va_Qi (fun (x : Int32) (_ : Unit) => x = r9) (fun _ t_ => va_P (dC, dI) vwCl (cW cB cI cJ cZ cS cO b cs9) t_.heap ∧ va_D A (cW cB cI cJ cZ cS cO b cs9)) A) ([.ref (b + x0), .int x1] : List Value).toArray s 0 0 A) (F0 m 22 ls []) := by
    intro cs1  h H locs ls hP hD hS hl
    unfold c_X7_open_b22 at h
    refine lv_iconst (v := (-1)) hx hb dX7_open_22 (by decide) ?_
    obtain ⟨e1, e2⟩ := Prod.mk.inj (Option.some.inj h)
    rw [e1] at hP hD
    exact W.iret (v := (-1)) hx hb hr (fun t_ ht hW => ⟨⟨(-1), (), rfl, e2, by rw [ht]; exact hP, hD⟩, hS.F ht⟩) hS.2.2 dX7_open_23
  have h := hf
  unfold c_X7_open at h
  refine lv_iload_n hx hb dX7_open_0 rfl (lv_at hl 1 rfl) ?_
  refine lv_iconst (v := 1) hx hb dX7_open_1 (by decide) ?_
  refine lv_icmp_lt (tgt := 22) hx hb dX7_open_2 (by decide) (fun c_1 => ?_) (fun c_1 => ?_)
  · skip
    replace h := (if_pos c_1).symm.trans h
    exact B_22 cs h _ _ _ hP hD hS (lv_sub hl [] rfl)
  · skip
    replace h := (if_neg c_1).symm.trans h
    refine lv_iload_n hx hb dX7_open_5 rfl (lv_at hl 1 rfl) ?_
    refine lv_iconst (v := 4) hx hb dX7_open_6 (by decide) ?_
    refine lv_icmp_gt (tgt := 22) hx hb dX7_open_7 (by decide) (fun c_2 => ?_) (fun c_2 => ?_)
    · skip
      replace h := (if_pos c_2).symm.trans h
      exact B_22 cs h _ _ _ hP hD hS (lv_sub hl [] rfl)
    · skip
      replace h := (if_neg c_2).symm.trans h
      refine lv_aload_n hx hb dX7_open_10 rfl (lv_at hl 0 rfl) ?_
      replace h := ob h; obtain ⟨v_3, hv_3, h⟩ := h
      refine fg_X7_40 hx hb hts hown hK hP hv_3 dX7_open_11 ?_
      refine lv_aload_n hx hb dX7_open_14 rfl (lv_at hl 0 rfl) ?_
      replace h := ob h; obtain ⟨v_4, hv_4, h⟩ := h
      refine fg_X7_19 hx hb hts hown hK hP hv_4 dX7_open_15 ?_
      replace h := ob h; obtain ⟨v_5, hv_5, h⟩ := h
      refine alen0 hx hb hK hP rfl hv_5 dX7_open_18 ?_
      refine lv_icmp_lt (tgt := 24) hx hb dX7_open_19 (by decide) (fun c_6 => ?_) (fun c_6 => ?_)
      · skip
        replace h := (if_pos c_6).symm.trans h
        refine lv_aload_n hx hb dX7_open_24 rfl (lv_at hl 0 rfl) ?_
        replace h := ob h; obtain ⟨v_7, hv_7, h⟩ := h
        refine fg_X7_19 hx hb hts hown hK hP hv_7 dX7_open_25 ?_
        refine lv_aload_n hx hb dX7_open_28 rfl (lv_at hl 0 rfl) ?_
        replace h := ob h; obtain ⟨v_8, hv_8, h⟩ := h
        refine fg_X7_40 hx hb hts hown hK hP hv_8 dX7_open_29 ?_
        refine lv_iload_n hx hb dX7_open_32 rfl (lv_at hl 1 rfl) ?_
        replace h := ob h; obtain ⟨cs_9, hv_9, h⟩ := h
        refine ast0 hx hb hK hP hD hS rfl hv_9 dX7_open_33 (fun H locs hP hD hS => ?_)
        refine lv_aload_n hx hb dX7_open_34 rfl (lv_at hl 0 rfl) ?_
        refine lv_dup hx hb dX7_open_35 rfl ?_
        replace h := ob h; obtain ⟨v_10, hv_10, h⟩ := h
        refine fg_X7_40 hx hb hts hown hK hP hv_10 dX7_open_36 ?_
        refine lv_iconst (v := 1) hx hb dX7_open_39 (by decide) ?_
        refine lv_iadd hx hb dX7_open_40 ?_
        replace h := ob h; obtain ⟨cs_11, hv_11, h⟩ := h
        refine fp_X7_40 hx hb hts hown hK hP hD hS hv_11 dX7_open_41 (fun H locs hP hD hS => ?_)
        refine lv_aload_n hx hb dX7_open_44 rfl (lv_at hl 0 rfl) ?_
        replace h := ob h; obtain ⟨v_12, hv_12, h⟩ := h
        refine fg_X7_40 hx hb hts hown hK hP hv_12 dX7_open_45 ?_
        refine lv_iconst (v := 1) hx hb dX7_open_48 (by decide) ?_
        refine lv_isub hx hb dX7_open_49 ?_
        obtain ⟨e1, e2⟩ := Prod.mk.inj (Option.some.inj h)
        rw [e1] at hP hD
        exact W.iret (v := v_12 - 1) hx hb hr (fun t_ ht hW => ⟨⟨v_12 - 1, (), rfl, e2, by rw [ht]; exact hP, hD⟩, hS.F ht⟩) hS.2.2 dX7_open_50
      · skip
        replace h := (if_neg c_6).symm.trans h
        exact B_22 cs h _ _ _ hP hD hS (lv_sub hl [] rfl)
theorem dX7_draft_0 : decode cX7_draft 0 = .ok (.aload_n 0, 1) := by decide +kernel
theorem dX7_draft_1 : decode cX7_draft 1 = .ok (.getfield 48, 3) := by decide +kernel
theorem dX7_draft_4 : decode cX7_draft 4 = .ok (.aload_n 0, 1) := by decide +kernel
theorem dX7_draft_5 : decode cX7_draft 5 = .ok (.getfield 34, 3) := by decide +kernel
theorem dX7_draft_8 : decode cX7_draft 8 = .ok (.arraylength, 1) := by decide +kernel
theorem dX7_draft_9 : decode cX7_draft 9 = .ok (.if_icmp .ge 15, 3) := by decide +kernel
theorem dX7_draft_12 : decode cX7_draft 12 = .ok (.aload_n 0, 1) := by decide +kernel
theorem dX7_draft_13 : decode cX7_draft 13 = .ok (.getfield 48, 3) := by decide +kernel
theorem dX7_draft_16 : decode cX7_draft 16 = .ok (.aload_n 0, 1) := by decide +kernel
theorem dX7_draft_17 : decode cX7_draft 17 = .ok (.getfield 37, 3) := by decide +kernel
theorem dX7_draft_20 : decode cX7_draft 20 = .ok (.arraylength, 1) := by decide +kernel
theorem dX7_draft_21 : decode cX7_draft 21 = .ok (.if_icmp .lt 5, 3) := by decide +kernel
theorem dX7_draft_24 : decode cX7_draft 24 = .ok (.iconst (-1), 1) := by decide +kernel
theorem dX7_draft_25 : decode cX7_draft 25 = .ok (.ireturn, 1) := by decide +kernel
theorem dX7_draft_26 : decode cX7_draft 26 = .ok (.aload_n 0, 1) := by decide +kernel
theorem dX7_draft_27 : decode cX7_draft 27 = .ok (.getfield 34, 3) := by decide +kernel
theorem dX7_draft_30 : decode cX7_draft 30 = .ok (.aload_n 0, 1) := by decide +kernel
theorem dX7_draft_31 : decode cX7_draft 31 = .ok (.getfield 48, 3) := by decide +kernel
theorem dX7_draft_34 : decode cX7_draft 34 = .ok (.lload_n 1, 1) := by decide +kernel
theorem dX7_draft_35 : decode cX7_draft 35 = .ok (.lastore, 1) := by decide +kernel
theorem dX7_draft_36 : decode cX7_draft 36 = .ok (.aload_n 0, 1) := by decide +kernel
theorem dX7_draft_37 : decode cX7_draft 37 = .ok (.getfield 37, 3) := by decide +kernel
theorem dX7_draft_40 : decode cX7_draft 40 = .ok (.aload_n 0, 1) := by decide +kernel
theorem dX7_draft_41 : decode cX7_draft 41 = .ok (.getfield 48, 3) := by decide +kernel
theorem dX7_draft_44 : decode cX7_draft 44 = .ok (.iload_n 3, 1) := by decide +kernel
theorem dX7_draft_45 : decode cX7_draft 45 = .ok (.bastore, 1) := by decide +kernel
theorem dX7_draft_46 : decode cX7_draft 46 = .ok (.aload_n 0, 1) := by decide +kernel
theorem dX7_draft_47 : decode cX7_draft 47 = .ok (.dup, 1) := by decide +kernel
theorem dX7_draft_48 : decode cX7_draft 48 = .ok (.getfield 48, 3) := by decide +kernel
theorem dX7_draft_51 : decode cX7_draft 51 = .ok (.iconst 1, 1) := by decide +kernel
theorem dX7_draft_52 : decode cX7_draft 52 = .ok (.iadd, 1) := by decide +kernel
theorem dX7_draft_53 : decode cX7_draft 53 = .ok (.putfield 48, 3) := by decide +kernel
theorem dX7_draft_56 : decode cX7_draft 56 = .ok (.aload_n 0, 1) := by decide +kernel
theorem dX7_draft_57 : decode cX7_draft 57 = .ok (.getfield 48, 3) := by decide +kernel
theorem dX7_draft_60 : decode cX7_draft 60 = .ok (.ireturn, 1) := by decide +kernel
def c_X7_draft_b24 (F : Nat) (cs1 : CS) : Option (CS × Int32) := some (cs1, (-1))
def c_X7_draft (F : Nat) (cs : CS) (x0 : Nat) (x1 : Int64) (x3 : Int32) : Option (CS × Int32) := Option.bind (gI cs 8 264 x0) fun v_1 => Option.bind (gA cs 8 262 x0) fun v_2 => Option.bind (lnA cs 262 x0 v_2) fun v_3 => if v_3 ≤ v_1 then (c_X7_draft_b24 F cs) else (Option.bind (gI cs 8 264 x0) fun v_5 => Option.bind (gA cs 8 263 x0) fun v_6 => Option.bind (lnA cs 263 x0 v_6) fun v_7 => if v_5 < v_7 then (Option.bind (gA cs 8 262 x0) fun v_9 => Option.bind (gI cs 8 264 x0) fun v_10 => Option.bind (wB cs 262 x0 v_9 v_10 x1) fun cs_11 => Option.bind (gA cs_11 8 263 x0) fun v_12 => Option.bind (gI cs_11 8 264 x0) fun v_13 => Option.bind (wA cs_11 263 x0 v_12 v_13 (vp_nar .byte x3)) fun cs_14 => Option.bind (gI cs_14 8 264 x0) fun v_15 => Option.bind (pI cs_14 8 264 x0 (v_15 + 1)) fun cs_16 => Option.bind (gI cs_16 8 264 x0) fun v_17 => some (cs_16, v_17)) else (c_X7_draft_b24 F cs))
theorem cw_X11_X7_draft {R : Room} {s : State} {args : Array Value} {y0 : MethodName} {c0 : ByteArray} {n0 : Nat} {r0 : Option FieldType} (hts : ∀ w ∈ wsOf y0 c0 n0 r0, w.before args s = true) {fr : Nat} (h1 : fr + 1 ≤ R.frames) (h2 : 8 + (4 + 11) + 60 * fr ≤ R.locals) : CallW R s args RX11 RX7 131 yX7_draft cX7_draft 4 (some .int) (wsOf yX7_draft cX7_draft 4 (some .int)) ({ frames := fr, cells := 0, slots := 0, locals := 60 * fr } : Room) 0 0 2 := cwV 2 hts (gd_all (in_V kw_1573 kw_1574 kw_1575 kw_182 kc_X7_draft)) rfl rfl rfl (by decide +kernel) ⟨h1, h2⟩
set_option maxHeartbeats 4000000 in
set_option maxRecDepth 100000 in
theorem sc_X7_draft (l : Launch) (dC : Nat → ClassId) (dI : Nat → Nat → Nat) (cB cI cJ cZ cS cO : ClassId) (b : Nat) (K V : Nat → Nat) (fz : Value) (F : Nat) (cs : CS) (x0 : Nat) (x1 : Int64) (x3 : Int32) (cs9 : CS) (r9 : Int32) (hf : c_X7_draft F cs x0 x1 x3 = some (cs9, r9)) : ocI l dC dI cB cI cJ cZ cS cO b K V fz yX7_draft (wsOf yX7_draft cX7_draft 4 (some .int)) (0) [.ref (b + x0), .long x1, .int x3] cs cs9 r9 := by
  intro sz
  refine Met.ofW (cc := cX7_draft) (maxL := 4) (ret := (some .int)) (by decide) rfl ?_
  intro p e s m args below meth c s₁ B hml hv
  obtain ⟨rfl, hsz, hP, hK, hD0, hZ⟩ := hv
  have hx := B.exec
  have hb := B.bytes
  have hr := B.returns
  have hts := atoms_spec (ws := (wsOf yX7_draft cX7_draft 4 (some .int))) B.pre
  have hown : s.vm.findClass RX7 = some m.cls := findClass_of_methodNamed B.named
  have hlocks := B.notSynchronized
  subst hsz
  have hD := hD0.self (sz := s.heap.size)
  generalize hAe : va_A (cW cB cI cJ cZ cS cO b cs) s.heap.size = A at hD hZ ⊢
  have hA : ∀ q : Nat, s.heap.size ≤ q → A q := fun q h => by rw [← hAe]; exact Or.inr h
  have hS : va_S A s.heap s.heap [] := va_S.rf
  have hl := lv_entry ([.ref (b + x0), .long x1, .int x3]) (n := 4) (Nat.le_of_ble_eq_true rfl)
  rw [lg_entry_eq]
  generalize (lg_sl ([.ref (b + x0), .long x1, .int x3]) ++ List.replicate (4 - (lg_sl ([.ref (b + x0), .long x1, .int x3])).length) Slot.unset).toArray = ls at hl ⊢
  have hl : lv_has ls 4 [(0, .ref (b + x0)), (1, .long x1), (3, .int x3)] := hl
  have B_24 : ∀ (cs1 : CS) , c_X7_draft_b24 F cs1 = some (cs9, r9) → ∀ (H : Heap) (locs : List Loc) (ls : Array Slot), va_P (dC, dI) vwCl (cW cB cI cJ cZ cS cO b cs1) H → va_D A (cW cB cI cJ cZ cS cO b cs1) → va_S A s.heap H locs → lv_has ls 4 [] → W p l e (headSpec (wsOf yX7_draft cX7_draft 4 (some .int)) ({ frames := 0, cells := 0, slots := 0, locals := 60 * (0) } : Room)).room s m ([.ref (b + x0), .long x1, .int x3] : List Value).toArray below meth c H locs 0 0 (MQ below (va_Qi (fun (x : Int32) (_ : Unit) => x = r9) (fun _ t_ => va_P (dC, dI) vwCl (cW cB cI cJ cZ cS cO b cs9) t_.heap ∧ va_D A (cW cB cI cJ cZ cS cO b cs9)) A) ([.ref (b + x0), .long x1, .int x3] : List Value).toArray s 0 0 A) (F0 m 24 ls []) := by
    intro cs1  h H locs ls hP hD hS hl
    unfold c_X7_draft_b24 at h
    refine lv_iconst (v := (-1)) hx hb dX7_draft_24 (by decide) ?_
    obtain ⟨e1, e2⟩ := Prod.mk.inj (Option.some.inj h)
    rw [e1] at hP hD
    exact W.iret (v := (-1)) hx hb hr (fun t_ ht hW => ⟨⟨(-1), (), rfl, e2, by rw [ht]; exact hP, hD⟩, hS.F ht⟩) hS.2.2 dX7_draft_25
  have h := hf
  unfold c_X7_draft at h
  refine lv_aload_n hx hb dX7_draft_0 rfl (lv_at hl 0 rfl) ?_
  replace h := ob h; obtain ⟨v_1, hv_1, h⟩ := h
  refine fg_X7_48 hx hb hts hown hK hP hv_1 dX7_draft_1 ?_
  refine lv_aload_n hx hb dX7_draft_4 rfl (lv_at hl 0 rfl) ?_
  replace h := ob h; obtain ⟨v_2, hv_2, h⟩ := h
  refine fg_X7_34 hx hb hts hown hK hP hv_2 dX7_draft_5 ?_
  replace h := ob h; obtain ⟨v_3, hv_3, h⟩ := h
  refine alen2 hx hb hK hP rfl hv_3 dX7_draft_8 ?_
  refine lv_icmp_ge (tgt := 24) hx hb dX7_draft_9 (by decide) (fun c_4 => ?_) (fun c_4 => ?_)
  · skip
    replace h := (if_pos c_4).symm.trans h
    exact B_24 cs h _ _ _ hP hD hS (lv_sub hl [] rfl)
  · skip
    replace h := (if_neg c_4).symm.trans h
    refine lv_aload_n hx hb dX7_draft_12 rfl (lv_at hl 0 rfl) ?_
    replace h := ob h; obtain ⟨v_5, hv_5, h⟩ := h
    refine fg_X7_48 hx hb hts hown hK hP hv_5 dX7_draft_13 ?_
    refine lv_aload_n hx hb dX7_draft_16 rfl (lv_at hl 0 rfl) ?_
    replace h := ob h; obtain ⟨v_6, hv_6, h⟩ := h
    refine fg_X7_37 hx hb hts hown hK hP hv_6 dX7_draft_17 ?_
    replace h := ob h; obtain ⟨v_7, hv_7, h⟩ := h
    refine alen1 hx hb hK hP rfl hv_7 dX7_draft_20 ?_
    refine lv_icmp_lt (tgt := 26) hx hb dX7_draft_21 (by decide) (fun c_8 => ?_) (fun c_8 => ?_)
    · skip
      replace h := (if_pos c_8).symm.trans h
      refine lv_aload_n hx hb dX7_draft_26 rfl (lv_at hl 0 rfl) ?_
      replace h := ob h; obtain ⟨v_9, hv_9, h⟩ := h
      refine fg_X7_34 hx hb hts hown hK hP hv_9 dX7_draft_27 ?_
      refine lv_aload_n hx hb dX7_draft_30 rfl (lv_at hl 0 rfl) ?_
      replace h := ob h; obtain ⟨v_10, hv_10, h⟩ := h
      refine fg_X7_48 hx hb hts hown hK hP hv_10 dX7_draft_31 ?_
      refine lv_lload_n hx hb dX7_draft_34 rfl (lv_at hl 1 rfl) ?_
      replace h := ob h; obtain ⟨cs_11, hv_11, h⟩ := h
      refine ast2 hx hb hK hP hD hS rfl hv_11 dX7_draft_35 (fun H locs hP hD hS => ?_)
      refine lv_aload_n hx hb dX7_draft_36 rfl (lv_at hl 0 rfl) ?_
      replace h := ob h; obtain ⟨v_12, hv_12, h⟩ := h
      refine fg_X7_37 hx hb hts hown hK hP hv_12 dX7_draft_37 ?_
      refine lv_aload_n hx hb dX7_draft_40 rfl (lv_at hl 0 rfl) ?_
      replace h := ob h; obtain ⟨v_13, hv_13, h⟩ := h
      refine fg_X7_48 hx hb hts hown hK hP hv_13 dX7_draft_41 ?_
      refine lv_iload_n hx hb dX7_draft_44 rfl (lv_at hl 2 rfl) ?_
      replace h := ob h; obtain ⟨cs_14, hv_14, h⟩ := h
      refine ast1 hx hb hK hP hD hS rfl hv_14 dX7_draft_45 (fun H locs hP hD hS => ?_)
      refine lv_aload_n hx hb dX7_draft_46 rfl (lv_at hl 0 rfl) ?_
      refine lv_dup hx hb dX7_draft_47 rfl ?_
      replace h := ob h; obtain ⟨v_15, hv_15, h⟩ := h
      refine fg_X7_48 hx hb hts hown hK hP hv_15 dX7_draft_48 ?_
      refine lv_iconst (v := 1) hx hb dX7_draft_51 (by decide) ?_
      refine lv_iadd hx hb dX7_draft_52 ?_
      replace h := ob h; obtain ⟨cs_16, hv_16, h⟩ := h
      refine fp_X7_48 hx hb hts hown hK hP hD hS hv_16 dX7_draft_53 (fun H locs hP hD hS => ?_)
      refine lv_aload_n hx hb dX7_draft_56 rfl (lv_at hl 0 rfl) ?_
      replace h := ob h; obtain ⟨v_17, hv_17, h⟩ := h
      refine fg_X7_48 hx hb hts hown hK hP hv_17 dX7_draft_57 ?_
      obtain ⟨e1, e2⟩ := Prod.mk.inj (Option.some.inj h)
      rw [e1] at hP hD
      exact W.iret (v := v_17) hx hb hr (fun t_ ht hW => ⟨⟨v_17, (), rfl, e2, by rw [ht]; exact hP, hD⟩, hS.F ht⟩) hS.2.2 dX7_draft_60
    · skip
      replace h := (if_neg c_8).symm.trans h
      exact B_24 cs h _ _ _ hP hD hS (lv_sub hl [] rfl)
theorem dX7_holds_0 : decode cX7_holds 0 = .ok (.aload_n 0, 1) := by decide +kernel
theorem dX7_holds_1 : decode cX7_holds 1 = .ok (.iload_n 1, 1) := by decide +kernel
theorem dX7_holds_2 : decode cX7_holds 2 = .ok (.invokevirtual 44, 3) := by decide +kernel
theorem dX7_holds_5 : decode cX7_holds 5 = .ok (.ifCond .eq 31, 3) := by decide +kernel
theorem dX7_holds_8 : decode cX7_holds 8 = .ok (.iload_n 2, 1) := by decide +kernel
theorem dX7_holds_9 : decode cX7_holds 9 = .ok (.ifCond .lt 27, 3) := by decide +kernel
theorem dX7_holds_12 : decode cX7_holds 12 = .ok (.iload_n 2, 1) := by decide +kernel
theorem dX7_holds_13 : decode cX7_holds 13 = .ok (.bipush 8, 2) := by decide +kernel
theorem dX7_holds_15 : decode cX7_holds 15 = .ok (.if_icmp .ge 21, 3) := by decide +kernel
theorem dX7_holds_18 : decode cX7_holds 18 = .ok (.aload_n 0, 1) := by decide +kernel
theorem dX7_holds_19 : decode cX7_holds 19 = .ok (.getfield 31, 3) := by decide +kernel
theorem dX7_holds_22 : decode cX7_holds 22 = .ok (.iload_n 1, 1) := by decide +kernel
theorem dX7_holds_23 : decode cX7_holds 23 = .ok (.bipush 8, 2) := by decide +kernel
theorem dX7_holds_25 : decode cX7_holds 25 = .ok (.imul, 1) := by decide +kernel
theorem dX7_holds_26 : decode cX7_holds 26 = .ok (.iload_n 2, 1) := by decide +kernel
theorem dX7_holds_27 : decode cX7_holds 27 = .ok (.iadd, 1) := by decide +kernel
theorem dX7_holds_28 : decode cX7_holds 28 = .ok (.baload, 1) := by decide +kernel
theorem dX7_holds_29 : decode cX7_holds 29 = .ok (.ifCond .eq 7, 3) := by decide +kernel
theorem dX7_holds_32 : decode cX7_holds 32 = .ok (.iconst 1, 1) := by decide +kernel
theorem dX7_holds_33 : decode cX7_holds 33 = .ok (.goto 4, 3) := by decide +kernel
theorem dX7_holds_36 : decode cX7_holds 36 = .ok (.iconst 0, 1) := by decide +kernel
theorem dX7_holds_37 : decode cX7_holds 37 = .ok (.ireturn, 1) := by decide +kernel
def c_X7_holds_b37 (F : Nat) (cs : CS) (y0 : Int32) : Option Int32 := Option.bind (ckZ y0) fun _ => some y0
def c_X7_holds_b36 (F : Nat) (cs : CS) : Option Int32 := c_X7_holds_b37 F cs 0
def c_X7_holds (F : Nat) (cs : CS) (x0 : Nat) (x1 : Int32) (x2 : Int32) : Option Int32 := Option.bind (ckE cs 8 x0) fun _ => Option.bind (c_X7_exists F cs x0 x1) fun v_2 => if v_2 = 0 then (c_X7_holds_b36 F cs ) else (if x2 < 0 then (c_X7_holds_b36 F cs ) else (if 8 ≤ x2 then (c_X7_holds_b36 F cs ) else (Option.bind (gA cs 8 261 x0) fun v_7 => Option.bind (rA cs 261 x0 v_7 ((x1 * 8) + x2)) fun v_8 => if v_8 = 0 then (c_X7_holds_b36 F cs ) else (c_X7_holds_b37 F cs 1))))
theorem cw_X7_X7_holds {R : Room} {s : State} {args : Array Value} {y0 : MethodName} {c0 : ByteArray} {n0 : Nat} {r0 : Option FieldType} (hts : ∀ w ∈ wsOf y0 c0 n0 r0, w.before args s = true) {fr : Nat} (h1 : fr + 1 ≤ R.frames) (h2 : 8 + (3 + 11) + 60 * fr ≤ R.locals) : CallW R s args RX7 RX7 62 yX7_holds cX7_holds 3 (some .boolean) (wsOf yX7_holds cX7_holds 3 (some .boolean)) ({ frames := fr, cells := 0, slots := 0, locals := 60 * fr } : Room) 0 0 2 := cwV 2 hts (gd_all (in_V kw_1388 kw_1389 kw_1390 kw_182 kc_X7_holds)) rfl rfl rfl (by decide +kernel) ⟨h1, h2⟩
set_option maxHeartbeats 4000000 in
set_option maxRecDepth 100000 in
theorem sc_X7_holds (l : Launch) (dC : Nat → ClassId) (dI : Nat → Nat → Nat) (cB cI cJ cZ cS cO : ClassId) (b : Nat) (K V : Nat → Nat) (fz : Value) (F : Nat) (cs : CS) (x0 : Nat) (x1 : Int32) (x2 : Int32) (r9 : Int32) (hf : c_X7_holds F cs x0 x1 x2 = some r9) : ocI l dC dI cB cI cJ cZ cS cO b K V fz yX7_holds (wsOf yX7_holds cX7_holds 3 (some .boolean)) (1) [.ref (b + x0), .int x1, .int x2] cs cs r9 := by
  intro sz
  refine Met.ofW (cc := cX7_holds) (maxL := 3) (ret := (some .boolean)) (by decide) rfl ?_
  intro p e s m args below meth c s₁ B hml hv
  obtain ⟨rfl, hsz, hP, hK, hD0, hZ⟩ := hv
  have hx := B.exec
  have hb := B.bytes
  have hr := B.returns
  have hts := atoms_spec (ws := (wsOf yX7_holds cX7_holds 3 (some .boolean))) B.pre
  have hown : s.vm.findClass RX7 = some m.cls := findClass_of_methodNamed B.named
  have hlocks := B.notSynchronized
  subst hsz
  have hD := hD0.self (sz := s.heap.size)
  generalize hAe : va_A (cW cB cI cJ cZ cS cO b cs) s.heap.size = A at hD hZ ⊢
  have hA : ∀ q : Nat, s.heap.size ≤ q → A q := fun q h => by rw [← hAe]; exact Or.inr h
  have hS : va_S A s.heap s.heap [] := va_S.rf
  have hl := lv_entry ([.ref (b + x0), .int x1, .int x2]) (n := 3) (Nat.le_of_ble_eq_true rfl)
  rw [lg_entry_eq]
  generalize (lg_sl ([.ref (b + x0), .int x1, .int x2]) ++ List.replicate (3 - (lg_sl ([.ref (b + x0), .int x1, .int x2])).length) Slot.unset).toArray = ls at hl ⊢
  have hl : lv_has ls 3 [(0, .ref (b + x0)), (1, .int x1), (2, .int x2)] := hl
  have B_37 : ∀ (y0 : Int32), c_X7_holds_b37 F cs y0 = some r9 → ∀ (H : Heap) (locs : List Loc) (ls : Array Slot), va_P (dC, dI) vwCl (cW cB cI cJ cZ cS cO b cs) H → va_D A (cW cB cI cJ cZ cS cO b cs) → va_S A s.heap H locs → lv_has ls 3 [] → W p l e (headSpec (wsOf yX7_holds cX7_holds 3 (some .boolean)) ({ frames := 1, cells := 0, slots := 0, locals := 60 * (1) } : Room)).room s m ([.ref (b + x0), .int x1, .int x2] : List Value).toArray below meth c H locs 0 0 (MQ below (va_Qi (fun (x : Int32) (_ : Unit) => x = r9) (fun _ t_ => va_P (dC, dI) vwCl (cW cB cI cJ cZ cS cO b cs) t_.heap ∧ va_D A (cW cB cI cJ cZ cS cO b cs)) A) ([.ref (b + x0), .int x1, .int x2] : List Value).toArray s 0 0 A) (F0 m 37 ls [.int y0]) := by
    intro y0 h H locs ls hP hD hS hl
    unfold c_X7_holds_b37 at h
    replace h := ob h; obtain ⟨w_1, hw_1, h⟩ := h
    have e2 := Option.some.inj h
    exact W.zret (v := y0) hx hb hr (nzN (ckZ_some hw_1)) (fun t_ ht hW => ⟨⟨y0, (), rfl, e2, by rw [ht]; exact hP, hD⟩, hS.F ht⟩) hS.2.2 dX7_holds_37
  have B_36 : c_X7_holds_b36 F cs = some r9 → ∀ (H : Heap) (locs : List Loc) (ls : Array Slot), va_P (dC, dI) vwCl (cW cB cI cJ cZ cS cO b cs) H → va_D A (cW cB cI cJ cZ cS cO b cs) → va_S A s.heap H locs → lv_has ls 3 [] → W p l e (headSpec (wsOf yX7_holds cX7_holds 3 (some .boolean)) ({ frames := 1, cells := 0, slots := 0, locals := 60 * (1) } : Room)).room s m ([.ref (b + x0), .int x1, .int x2] : List Value).toArray below meth c H locs 0 0 (MQ below (va_Qi (fun (x : Int32) (_ : Unit) => x = r9) (fun _ t_ => va_P (dC, dI) vwCl (cW cB cI cJ cZ cS cO b cs) t_.heap ∧ va_D A (cW cB cI cJ cZ cS cO b cs)) A) ([.ref (b + x0), .int x1, .int x2] : List Value).toArray s 0 0 A) (F0 m 36 ls []) := by
    intro  h H locs ls hP hD hS hl
    unfold c_X7_holds_b36 at h
    refine lv_iconst (v := 0) hx hb dX7_holds_36 (by decide) ?_
    exact B_37 0 h _ _ _ hP hD hS (lv_sub hl [] rfl)
  have h := hf
  unfold c_X7_holds at h
  refine lv_aload_n hx hb dX7_holds_0 rfl (lv_at hl 0 rfl) ?_
  refine lv_iload_n hx hb dX7_holds_1 rfl (lv_at hl 1 rfl) ?_
  replace h := ob h; obtain ⟨w_3, hw_3, h⟩ := h
  replace h := ob h; obtain ⟨v_2, hv_2, h⟩ := h
  refine ccI (As := [.int x1]) hx hb hml hts hown hK hP hD hS hA hZ (X := 8) (by decide) rfl (ckE_some hw_3) (sc_X7_exists l dC dI cB cI cJ cZ cS cO b K V fz F cs x0 x1 v_2 hv_2) (cw_X7_X7_exists hts (fr := 0) (Nat.le_of_ble_eq_true rfl) (Nat.le_of_ble_eq_true rfl)) rfl hl.1 (Nat.le_of_ble_eq_true rfl) ⟨Nat.zero_le _, Nat.zero_le _⟩ dX7_holds_2 (fun H locs hP hD hS => ?_)
  refine lv_if_eq (tgt := 36) hx hb dX7_holds_5 (by decide) (fun c_4 => ?_) (fun c_4 => ?_)
  · skip
    replace h := (if_pos c_4).symm.trans h
    exact B_36  h _ _ _ hP hD hS (lv_sub hl [] rfl)
  · skip
    replace h := (if_neg c_4).symm.trans h
    refine lv_iload_n hx hb dX7_holds_8 rfl (lv_at hl 2 rfl) ?_
    refine lv_if_lt (tgt := 36) hx hb dX7_holds_9 (by decide) (fun c_5 => ?_) (fun c_5 => ?_)
    · skip
      replace h := (if_pos c_5).symm.trans h
      exact B_36  h _ _ _ hP hD hS (lv_sub hl [] rfl)
    · skip
      replace h := (if_neg c_5).symm.trans h
      refine lv_iload_n hx hb dX7_holds_12 rfl (lv_at hl 2 rfl) ?_
      refine lv_bipush (v := 8) hx hb dX7_holds_13 (by decide) ?_
      refine lv_icmp_ge (tgt := 36) hx hb dX7_holds_15 (by decide) (fun c_6 => ?_) (fun c_6 => ?_)
      · skip
        replace h := (if_pos c_6).symm.trans h
        exact B_36  h _ _ _ hP hD hS (lv_sub hl [] rfl)
      · skip
        replace h := (if_neg c_6).symm.trans h
        refine lv_aload_n hx hb dX7_holds_18 rfl (lv_at hl 0 rfl) ?_
        replace h := ob h; obtain ⟨v_7, hv_7, h⟩ := h
        refine fg_X7_31 hx hb hts hown hK hP hv_7 dX7_holds_19 ?_
        refine lv_iload_n hx hb dX7_holds_22 rfl (lv_at hl 1 rfl) ?_
        refine lv_bipush (v := 8) hx hb dX7_holds_23 (by decide) ?_
        refine lv_imul hx hb dX7_holds_25 ?_
        refine lv_iload_n hx hb dX7_holds_26 rfl (lv_at hl 2 rfl) ?_
        refine lv_iadd hx hb dX7_holds_27 ?_
        replace h := ob h; obtain ⟨v_8, hv_8, h⟩ := h
        refine ald1 hx hb hK hP rfl hv_8 dX7_holds_28 ?_
        refine lv_if_eq (tgt := 36) hx hb dX7_holds_29 (by decide) (fun c_9 => ?_) (fun c_9 => ?_)
        · skip
          replace h := (if_pos c_9).symm.trans h
          exact B_36  h _ _ _ hP hD hS (lv_sub hl [] rfl)
        · skip
          replace h := (if_neg c_9).symm.trans h
          refine lv_iconst (v := 1) hx hb dX7_holds_32 (by decide) ?_
          refine lv_goto (tgt := 37) hx hb dX7_holds_33 (by decide) ?_
          exact B_37 1 h _ _ _ hP hD hS (lv_sub hl [] rfl)
theorem dX7_freePlace_0 : decode cX7_freePlace 0 = .ok (.iconst 0, 1) := by decide +kernel
theorem dX7_freePlace_1 : decode cX7_freePlace 1 = .ok (.istore_n 2, 1) := by decide +kernel
theorem dX7_freePlace_2 : decode cX7_freePlace 2 = .ok (.iload_n 2, 1) := by decide +kernel
theorem dX7_freePlace_3 : decode cX7_freePlace 3 = .ok (.bipush 8, 2) := by decide +kernel
theorem dX7_freePlace_5 : decode cX7_freePlace 5 = .ok (.if_icmp .ge 20, 3) := by decide +kernel
theorem dX7_freePlace_8 : decode cX7_freePlace 8 = .ok (.aload_n 0, 1) := by decide +kernel
theorem dX7_freePlace_9 : decode cX7_freePlace 9 = .ok (.iload_n 1, 1) := by decide +kernel
theorem dX7_freePlace_10 : decode cX7_freePlace 10 = .ok (.iload_n 2, 1) := by decide +kernel
theorem dX7_freePlace_11 : decode cX7_freePlace 11 = .ok (.invokevirtual 62, 3) := by decide +kernel
theorem dX7_freePlace_14 : decode cX7_freePlace 14 = .ok (.ifCond .ne 5, 3) := by decide +kernel
theorem dX7_freePlace_17 : decode cX7_freePlace 17 = .ok (.iload_n 2, 1) := by decide +kernel
theorem dX7_freePlace_18 : decode cX7_freePlace 18 = .ok (.ireturn, 1) := by decide +kernel
theorem dX7_freePlace_19 : decode cX7_freePlace 19 = .ok (.iinc 2 1, 3) := by decide +kernel
theorem dX7_freePlace_22 : decode cX7_freePlace 22 = .ok (.goto (-20), 3) := by decide +kernel
theorem dX7_freePlace_25 : decode cX7_freePlace 25 = .ok (.iconst (-1), 1) := by decide +kernel
theorem dX7_freePlace_26 : decode cX7_freePlace 26 = .ok (.ireturn, 1) := by decide +kernel
def c_X7_freePlace_L2 (F : Nat) (cs : CS) : Nat → Nat → Int32 → Int32 → Option Int32
  | 0, _, _, _ => none
  | lf_2 + 1, u0, u1, u2 => if 8 ≤ u2 then (some (-1)) else (Option.bind (ckE cs 8 u0) fun _ => Option.bind (c_X7_holds F cs u0 u1 u2) fun v_2 => if v_2 = 0 then (some u2) else ((c_X7_freePlace_L2 F cs lf_2) u0 u1 (u2 + 1)))
def c_X7_freePlace (F : Nat) (cs : CS) (x0 : Nat) (x1 : Int32) : Option Int32 := c_X7_freePlace_L2 F cs F x0 x1 0
theorem cw_X7_X7_freePlace {R : Room} {s : State} {args : Array Value} {y0 : MethodName} {c0 : ByteArray} {n0 : Nat} {r0 : Option FieldType} (hts : ∀ w ∈ wsOf y0 c0 n0 r0, w.before args s = true) {fr : Nat} (h1 : fr + 1 ≤ R.frames) (h2 : 8 + (3 + 11) + 60 * fr ≤ R.locals) : CallW R s args RX7 RX7 55 yX7_freePlace cX7_freePlace 3 (some .int) (wsOf yX7_freePlace cX7_freePlace 3 (some .int)) ({ frames := fr, cells := 0, slots := 0, locals := 60 * fr } : Room) 0 0 1 := cwV 1 hts (gd_all (in_V kw_1590 kw_1592 kw_92 kw_182 kc_X7_freePlace)) rfl rfl rfl (by decide +kernel) ⟨h1, h2⟩
set_option maxHeartbeats 4000000 in
set_option maxRecDepth 100000 in
theorem sc_X7_freePlace (l : Launch) (dC : Nat → ClassId) (dI : Nat → Nat → Nat) (cB cI cJ cZ cS cO : ClassId) (b : Nat) (K V : Nat → Nat) (fz : Value) (F : Nat) (cs : CS) (x0 : Nat) (x1 : Int32) (r9 : Int32) (hf : c_X7_freePlace F cs x0 x1 = some r9) : ocI l dC dI cB cI cJ cZ cS cO b K V fz yX7_freePlace (wsOf yX7_freePlace cX7_freePlace 3 (some .int)) (2) [.ref (b + x0), .int x1] cs cs r9 := by
  intro sz
  refine Met.ofW (cc := cX7_freePlace) (maxL := 3) (ret := (some .int)) (by decide) rfl ?_
  intro p e s m args below meth c s₁ B hml hv
  obtain ⟨rfl, hsz, hP, hK, hD0, hZ⟩ := hv
  have hx := B.exec
  have hb := B.bytes
  have hr := B.returns
  have hts := atoms_spec (ws := (wsOf yX7_freePlace cX7_freePlace 3 (some .int))) B.pre
  have hown : s.vm.findClass RX7 = some m.cls := findClass_of_methodNamed B.named
  have hlocks := B.notSynchronized
  subst hsz
  have hD := hD0.self (sz := s.heap.size)
  generalize hAe : va_A (cW cB cI cJ cZ cS cO b cs) s.heap.size = A at hD hZ ⊢
  have hA : ∀ q : Nat, s.heap.size ≤ q → A q := fun q h => by rw [← hAe]; exact Or.inr h
  have hS : va_S A s.heap s.heap [] := va_S.rf
  have hl := lv_entry ([.ref (b + x0), .int x1]) (n := 3) (Nat.le_of_ble_eq_true rfl)
  rw [lg_entry_eq]
  generalize (lg_sl ([.ref (b + x0), .int x1]) ++ List.replicate (3 - (lg_sl ([.ref (b + x0), .int x1])).length) Slot.unset).toArray = ls at hl ⊢
  have hl : lv_has ls 3 [(0, .ref (b + x0)), (1, .int x1)] := hl
  have L_2 : ∀ (lf_2 : Nat), ∀ (u0 : Nat) (u1 : Int32) (u2 : Int32), c_X7_freePlace_L2 F cs lf_2 u0 u1 u2 = some r9 → ∀ (H : Heap) (locs : List Loc) (ls : Array Slot), va_P (dC, dI) vwCl (cW cB cI cJ cZ cS cO b cs) H → va_D A (cW cB cI cJ cZ cS cO b cs) → va_S A s.heap H locs → lv_has ls 3 [(0, .ref (b + u0)), (1, .int u1), (2, .int u2)] → W p l e (headSpec (wsOf yX7_freePlace cX7_freePlace 3 (some .int)) ({ frames := 2, cells := 0, slots := 0, locals := 60 * (2) } : Room)).room s m ([.ref (b + x0), .int x1] : List Value).toArray below meth c H locs 0 0 (MQ below (va_Qi (fun (x : Int32) (_ : Unit) => x = r9) (fun _ t_ => va_P (dC, dI) vwCl (cW cB cI cJ cZ cS cO b cs) t_.heap ∧ va_D A (cW cB cI cJ cZ cS cO b cs)) A) ([.ref (b + x0), .int x1] : List Value).toArray s 0 0 A) (F0 m 2 ls []) := by
    intro lf_2
    induction lf_2 with
    | zero => intro u0 u1 u2 h; cases (show (none : Option Int32) = _ from h)
    | succ lf_2 ih_2 =>
      intro u0 u1 u2 h H locs ls hP hD hS hl
      rw [c_X7_freePlace_L2] at h
      refine lv_iload_n hx hb dX7_freePlace_2 rfl (lv_at hl 2 rfl) ?_
      refine lv_bipush (v := 8) hx hb dX7_freePlace_3 (by decide) ?_
      refine lv_icmp_ge (tgt := 25) hx hb dX7_freePlace_5 (by decide) (fun c_1 => ?_) (fun c_1 => ?_)
      · skip
        replace h := (if_pos c_1).symm.trans h
        refine lv_iconst (v := (-1)) hx hb dX7_freePlace_25 (by decide) ?_
        have e2 := Option.some.inj h
        exact W.iret (v := (-1)) hx hb hr (fun t_ ht hW => ⟨⟨(-1), (), rfl, e2, by rw [ht]; exact hP, hD⟩, hS.F ht⟩) hS.2.2 dX7_freePlace_26
      · skip
        replace h := (if_neg c_1).symm.trans h
        refine lv_aload_n hx hb dX7_freePlace_8 rfl (lv_at hl 0 rfl) ?_
        refine lv_iload_n hx hb dX7_freePlace_9 rfl (lv_at hl 1 rfl) ?_
        refine lv_iload_n hx hb dX7_freePlace_10 rfl (lv_at hl 2 rfl) ?_
        replace h := ob h; obtain ⟨w_3, hw_3, h⟩ := h
        replace h := ob h; obtain ⟨v_2, hv_2, h⟩ := h
        refine ccI (As := [.int u1, .int u2]) hx hb hml hts hown hK hP hD hS hA hZ (X := 8) (by decide) rfl (ckE_some hw_3) (sc_X7_holds l dC dI cB cI cJ cZ cS cO b K V fz F cs u0 u1 u2 v_2 hv_2) (cw_X7_X7_holds hts (fr := 1) (Nat.le_of_ble_eq_true rfl) (Nat.le_of_ble_eq_true rfl)) rfl hl.1 (Nat.le_of_ble_eq_true rfl) ⟨Nat.zero_le _, Nat.zero_le _⟩ dX7_freePlace_11 (fun H locs hP hD hS => ?_)
        refine lv_if_ne (tgt := 19) hx hb dX7_freePlace_14 (by decide) (fun c_4 => ?_) (fun c_4 => ?_)
        · skip
          replace h := (if_neg c_4).symm.trans h
          refine lv_iinc (v := u2 + 1) (lv' := [(2, .int (u2 + 1)), (0, .ref (b + u0)), (1, .int u1)]) hx hb dX7_freePlace_19 hl (k := 2) rfl rfl (by decide) rfl (fun ls hl => ?_)
          refine lv_goto (tgt := 2) hx hb dX7_freePlace_22 (by decide) ?_
          exact ih_2 u0 u1 (u2 + 1) h _ _ _ hP hD hS (lv_sub hl [1, 2, 0] rfl)
        · skip
          replace h := (if_pos c_4).symm.trans h
          refine lv_iload_n hx hb dX7_freePlace_17 rfl (lv_at hl 2 rfl) ?_
          have e2 := Option.some.inj h
          exact W.iret (v := u2) hx hb hr (fun t_ ht hW => ⟨⟨u2, (), rfl, e2, by rw [ht]; exact hP, hD⟩, hS.F ht⟩) hS.2.2 dX7_freePlace_18
  have h := hf
  unfold c_X7_freePlace at h
  refine lv_iconst (v := 0) hx hb dX7_freePlace_0 (by decide) ?_
  refine lv_istore_n (lv' := [(2, .int 0), (0, .ref (b + x0)), (1, .int x1)]) hx hb dX7_freePlace_1 rfl hl (by decide) rfl (fun ls hl => ?_)
  exact L_2 F x0 x1 0 h _ _ _ hP hD hS (lv_sub hl [1, 2, 0] rfl)
theorem dX7_write_0 : decode cX7_write 0 = .ok (.iload_n 1, 1) := by decide +kernel
theorem dX7_write_1 : decode cX7_write 1 = .ok (.iconst 5, 1) := by decide +kernel
theorem dX7_write_2 : decode cX7_write 2 = .ok (.imul, 1) := by decide +kernel
theorem dX7_write_3 : decode cX7_write 3 = .ok (.istore 5, 2) := by decide +kernel
theorem dX7_write_5 : decode cX7_write 5 = .ok (.iload_n 1, 1) := by decide +kernel
theorem dX7_write_6 : decode cX7_write 6 = .ok (.ifCond .lt 33, 3) := by decide +kernel
theorem dX7_write_9 : decode cX7_write 9 = .ok (.iload_n 1, 1) := by decide +kernel
theorem dX7_write_10 : decode cX7_write 10 = .ok (.aload_n 0, 1) := by decide +kernel
theorem dX7_write_11 : decode cX7_write 11 = .ok (.getfield 31, 3) := by decide +kernel
theorem dX7_write_14 : decode cX7_write 14 = .ok (.arraylength, 1) := by decide +kernel
theorem dX7_write_15 : decode cX7_write 15 = .ok (.if_icmp .ge 24, 3) := by decide +kernel
theorem dX7_write_18 : decode cX7_write 18 = .ok (.iload 5, 2) := by decide +kernel
theorem dX7_write_20 : decode cX7_write 20 = .ok (.iload_n 2, 1) := by decide +kernel
theorem dX7_write_21 : decode cX7_write 21 = .ok (.iadd, 1) := by decide +kernel
theorem dX7_write_22 : decode cX7_write 22 = .ok (.aload_n 0, 1) := by decide +kernel
theorem dX7_write_23 : decode cX7_write 23 = .ok (.getfield 23, 3) := by decide +kernel
theorem dX7_write_26 : decode cX7_write 26 = .ok (.arraylength, 1) := by decide +kernel
theorem dX7_write_27 : decode cX7_write 27 = .ok (.if_icmp .ge 12, 3) := by decide +kernel
theorem dX7_write_30 : decode cX7_write 30 = .ok (.iload_n 2, 1) := by decide +kernel
theorem dX7_write_31 : decode cX7_write 31 = .ok (.aload_n 0, 1) := by decide +kernel
theorem dX7_write_32 : decode cX7_write 32 = .ok (.getfield 34, 3) := by decide +kernel
theorem dX7_write_35 : decode cX7_write 35 = .ok (.arraylength, 1) := by decide +kernel
theorem dX7_write_36 : decode cX7_write 36 = .ok (.if_icmp .le 4, 3) := by decide +kernel
theorem dX7_write_39 : decode cX7_write 39 = .ok (.return_, 1) := by decide +kernel
theorem dX7_write_40 : decode cX7_write 40 = .ok (.aload_n 0, 1) := by decide +kernel
theorem dX7_write_41 : decode cX7_write 41 = .ok (.getfield 34, 3) := by decide +kernel
theorem dX7_write_44 : decode cX7_write 44 = .ok (.iconst 0, 1) := by decide +kernel
theorem dX7_write_45 : decode cX7_write 45 = .ok (.aload_n 0, 1) := by decide +kernel
theorem dX7_write_46 : decode cX7_write 46 = .ok (.getfield 23, 3) := by decide +kernel
theorem dX7_write_49 : decode cX7_write 49 = .ok (.iload 5, 2) := by decide +kernel
theorem dX7_write_51 : decode cX7_write 51 = .ok (.iload_n 2, 1) := by decide +kernel
theorem dX7_write_52 : decode cX7_write 52 = .ok (.invokestatic 66, 3) := by decide +kernel
theorem dX7_write_55 : decode cX7_write 55 = .ok (.aload_n 0, 1) := by decide +kernel
theorem dX7_write_56 : decode cX7_write 56 = .ok (.getfield 37, 3) := by decide +kernel
theorem dX7_write_59 : decode cX7_write 59 = .ok (.iconst 0, 1) := by decide +kernel
theorem dX7_write_60 : decode cX7_write 60 = .ok (.aload_n 0, 1) := by decide +kernel
theorem dX7_write_61 : decode cX7_write 61 = .ok (.getfield 27, 3) := by decide +kernel
theorem dX7_write_64 : decode cX7_write 64 = .ok (.iload 5, 2) := by decide +kernel
theorem dX7_write_66 : decode cX7_write 66 = .ok (.iload_n 2, 1) := by decide +kernel
theorem dX7_write_67 : decode cX7_write 67 = .ok (.invokestatic 66, 3) := by decide +kernel
theorem dX7_write_70 : decode cX7_write 70 = .ok (.aload_n 0, 1) := by decide +kernel
theorem dX7_write_71 : decode cX7_write 71 = .ok (.getfield 23, 3) := by decide +kernel
theorem dX7_write_74 : decode cX7_write 74 = .ok (.iload 5, 2) := by decide +kernel
theorem dX7_write_76 : decode cX7_write 76 = .ok (.iload_n 2, 1) := by decide +kernel
theorem dX7_write_77 : decode cX7_write 77 = .ok (.iadd, 1) := by decide +kernel
theorem dX7_write_78 : decode cX7_write 78 = .ok (.lload_n 3, 1) := by decide +kernel
theorem dX7_write_79 : decode cX7_write 79 = .ok (.lastore, 1) := by decide +kernel
theorem dX7_write_80 : decode cX7_write 80 = .ok (.aload_n 0, 1) := by decide +kernel
theorem dX7_write_81 : decode cX7_write 81 = .ok (.getfield 27, 3) := by decide +kernel
theorem dX7_write_84 : decode cX7_write 84 = .ok (.iload 5, 2) := by decide +kernel
theorem dX7_write_86 : decode cX7_write 86 = .ok (.iload_n 2, 1) := by decide +kernel
theorem dX7_write_87 : decode cX7_write 87 = .ok (.iadd, 1) := by decide +kernel
theorem dX7_write_88 : decode cX7_write 88 = .ok (.iconst 0, 1) := by decide +kernel
theorem dX7_write_89 : decode cX7_write 89 = .ok (.bastore, 1) := by decide +kernel
theorem dX7_write_90 : decode cX7_write 90 = .ok (.aload_n 0, 1) := by decide +kernel
theorem dX7_write_91 : decode cX7_write 91 = .ok (.getfield 31, 3) := by decide +kernel
theorem dX7_write_94 : decode cX7_write 94 = .ok (.iload_n 1, 1) := by decide +kernel
theorem dX7_write_95 : decode cX7_write 95 = .ok (.iconst 1, 1) := by decide +kernel
theorem dX7_write_96 : decode cX7_write 96 = .ok (.bastore, 1) := by decide +kernel
theorem dX7_write_97 : decode cX7_write 97 = .ok (.return_, 1) := by decide +kernel
def c_X7_write_b39 (F : Nat) (cs1 : CS) : Option CS := some cs1
def c_X7_write (F : Nat) (cs : CS) (x0 : Nat) (x1 : Int32) (x2 : Int32) (x3 : Int64) : Option CS := if x1 < 0 then (c_X7_write_b39 F cs) else (Option.bind (gA cs 8 261 x0) fun v_2 => Option.bind (lnA cs 261 x0 v_2) fun v_3 => if v_3 ≤ x1 then (c_X7_write_b39 F cs) else (Option.bind (gA cs 8 259 x0) fun v_5 => Option.bind (lnA cs 259 x0 v_5) fun v_6 => if v_6 ≤ ((x1 * 5) + x2) then (c_X7_write_b39 F cs) else (Option.bind (gA cs 8 262 x0) fun v_8 => Option.bind (lnA cs 262 x0 v_8) fun v_9 => if x2 ≤ v_9 then (Option.bind (gA cs 8 262 x0) fun v_11 => Option.bind (gA cs 8 259 x0) fun v_12 => Option.bind (cpB cs 262 x0 v_11 0 259 x0 v_12 (x1 * 5) x2) fun cs_13 => Option.bind (gA cs_13 8 263 x0) fun v_14 => Option.bind (gA cs_13 8 260 x0) fun v_15 => Option.bind (cpA cs_13 263 x0 v_14 0 260 x0 v_15 (x1 * 5) x2) fun cs_16 => Option.bind (gA cs_16 8 259 x0) fun v_17 => Option.bind (wB cs_16 259 x0 v_17 ((x1 * 5) + x2) x3) fun cs_18 => Option.bind (gA cs_18 8 260 x0) fun v_19 => Option.bind (wA cs_18 260 x0 v_19 ((x1 * 5) + x2) (vp_nar .byte 0)) fun cs_20 => Option.bind (gA cs_20 8 261 x0) fun v_21 => Option.bind (wA cs_20 261 x0 v_21 x1 (vp_nar .byte 1)) fun cs_22 => some cs_22) else (c_X7_write_b39 F cs))))
theorem cw_X7_X7_write {R : Room} {s : State} {args : Array Value} {y0 : MethodName} {c0 : ByteArray} {n0 : Nat} {r0 : Option FieldType} (hts : ∀ w ∈ wsOf y0 c0 n0 r0, w.before args s = true) {fr : Nat} (h1 : fr + 1 ≤ R.frames) (h2 : 8 + (6 + 11) + 60 * fr ≤ R.locals) : CallW R s args RX7 RX7 58 yX7_write cX7_write 6 none (wsOf yX7_write cX7_write 6 none) ({ frames := fr, cells := 0, slots := 0, locals := 60 * fr } : Room) 0 0 3 := cwV 3 hts (gd_all (in_V kw_1594 kw_1596 kw_93 kw_182 kc_X7_write)) rfl rfl rfl (by decide +kernel) ⟨h1, h2⟩
set_option maxHeartbeats 4000000 in
set_option maxRecDepth 100000 in
theorem sc_X7_write (l : Launch) (dC : Nat → ClassId) (dI : Nat → Nat → Nat) (cB cI cJ cZ cS cO : ClassId) (b : Nat) (K V : Nat → Nat) (fz : Value) (F : Nat) (cs : CS) (x0 : Nat) (x1 : Int32) (x2 : Int32) (x3 : Int64) (cs9 : CS) (hf : c_X7_write F cs x0 x1 x2 x3 = some cs9) : ocV l dC dI cB cI cJ cZ cS cO b K V fz yX7_write (wsOf yX7_write cX7_write 6 none) (1) [.ref (b + x0), .int x1, .int x2, .long x3] cs cs9 := by
  intro sz
  refine Met.ofW (cc := cX7_write) (maxL := 6) (ret := none) (by decide) rfl ?_
  intro p e s m args below meth c s₁ B hml hv
  obtain ⟨rfl, hsz, hP, hK, hD0, hZ⟩ := hv
  have hx := B.exec
  have hb := B.bytes
  have hr := B.returns
  have hts := atoms_spec (ws := (wsOf yX7_write cX7_write 6 none)) B.pre
  have hown : s.vm.findClass RX7 = some m.cls := findClass_of_methodNamed B.named
  have hlocks := B.notSynchronized
  subst hsz
  have hD := hD0.self (sz := s.heap.size)
  generalize hAe : va_A (cW cB cI cJ cZ cS cO b cs) s.heap.size = A at hD hZ ⊢
  have hA : ∀ q : Nat, s.heap.size ≤ q → A q := fun q h => by rw [← hAe]; exact Or.inr h
  have hS : va_S A s.heap s.heap [] := va_S.rf
  have hl := lv_entry ([.ref (b + x0), .int x1, .int x2, .long x3]) (n := 6) (Nat.le_of_ble_eq_true rfl)
  rw [lg_entry_eq]
  generalize (lg_sl ([.ref (b + x0), .int x1, .int x2, .long x3]) ++ List.replicate (6 - (lg_sl ([.ref (b + x0), .int x1, .int x2, .long x3])).length) Slot.unset).toArray = ls at hl ⊢
  have hl : lv_has ls 6 [(0, .ref (b + x0)), (1, .int x1), (2, .int x2), (3, .long x3)] := hl
  have B_39 : ∀ (cs1 : CS) , c_X7_write_b39 F cs1 = some cs9 → ∀ (H : Heap) (locs : List Loc) (ls : Array Slot), va_P (dC, dI) vwCl (cW cB cI cJ cZ cS cO b cs1) H → va_D A (cW cB cI cJ cZ cS cO b cs1) → va_S A s.heap H locs → lv_has ls 6 [] → W p l e (headSpec (wsOf yX7_write cX7_write 6 none) ({ frames := 1, cells := 0, slots := 0, locals := 60 * (1) } : Room)).room s m ([.ref (b + x0), .int x1, .int x2, .long x3] : List Value).toArray below meth c H locs 0 0 (MQ below (va_Qv (fun (_ : Unit) => True) (fun _ t_ => va_P (dC, dI) vwCl (cW cB cI cJ cZ cS cO b cs9) t_.heap ∧ va_D A (cW cB cI cJ cZ cS cO b cs9)) A) ([.ref (b + x0), .int x1, .int x2, .long x3] : List Value).toArray s 0 0 A) (F0 m 39 ls []) := by
    intro cs1  h H locs ls hP hD hS hl
    unfold c_X7_write_b39 at h
    have e1 := Option.some.inj h
    rw [e1] at hP hD
    exact W.vret hx hb hr (fun t_ ht hW => ⟨⟨(), rfl, trivial, by rw [ht]; exact hP, hD⟩, hS.F ht⟩) hS.2.2 dX7_write_39
  have h := hf
  unfold c_X7_write at h
  refine lv_iload_n hx hb dX7_write_0 rfl (lv_at hl 1 rfl) ?_
  refine lv_iconst (v := 5) hx hb dX7_write_1 (by decide) ?_
  refine lv_imul hx hb dX7_write_2 ?_
  refine lv_istore (lv' := [(5, .int (x1 * 5)), (0, .ref (b + x0)), (1, .int x1), (2, .int x2), (3, .long x3)]) hx hb dX7_write_3 hl (by decide) rfl (fun ls hl => ?_)
  refine lv_iload_n hx hb dX7_write_5 rfl (lv_at hl 2 rfl) ?_
  refine lv_if_lt (tgt := 39) hx hb dX7_write_6 (by decide) (fun c_1 => ?_) (fun c_1 => ?_)
  · skip
    replace h := (if_pos c_1).symm.trans h
    exact B_39 cs h _ _ _ hP hD hS (lv_sub hl [] rfl)
  · skip
    replace h := (if_neg c_1).symm.trans h
    refine lv_iload_n hx hb dX7_write_9 rfl (lv_at hl 2 rfl) ?_
    refine lv_aload_n hx hb dX7_write_10 rfl (lv_at hl 1 rfl) ?_
    replace h := ob h; obtain ⟨v_2, hv_2, h⟩ := h
    refine fg_X7_31 hx hb hts hown hK hP hv_2 dX7_write_11 ?_
    replace h := ob h; obtain ⟨v_3, hv_3, h⟩ := h
    refine alen1 hx hb hK hP rfl hv_3 dX7_write_14 ?_
    refine lv_icmp_ge (tgt := 39) hx hb dX7_write_15 (by decide) (fun c_4 => ?_) (fun c_4 => ?_)
    · skip
      replace h := (if_pos c_4).symm.trans h
      exact B_39 cs h _ _ _ hP hD hS (lv_sub hl [] rfl)
    · skip
      replace h := (if_neg c_4).symm.trans h
      refine lv_iload hx hb dX7_write_18 (lv_at hl 0 rfl) ?_
      refine lv_iload_n hx hb dX7_write_20 rfl (lv_at hl 3 rfl) ?_
      refine lv_iadd hx hb dX7_write_21 ?_
      refine lv_aload_n hx hb dX7_write_22 rfl (lv_at hl 1 rfl) ?_
      replace h := ob h; obtain ⟨v_5, hv_5, h⟩ := h
      refine fg_X7_23 hx hb hts hown hK hP hv_5 dX7_write_23 ?_
      replace h := ob h; obtain ⟨v_6, hv_6, h⟩ := h
      refine alen2 hx hb hK hP rfl hv_6 dX7_write_26 ?_
      refine lv_icmp_ge (tgt := 39) hx hb dX7_write_27 (by decide) (fun c_7 => ?_) (fun c_7 => ?_)
      · skip
        replace h := (if_pos c_7).symm.trans h
        exact B_39 cs h _ _ _ hP hD hS (lv_sub hl [] rfl)
      · skip
        replace h := (if_neg c_7).symm.trans h
        refine lv_iload_n hx hb dX7_write_30 rfl (lv_at hl 3 rfl) ?_
        refine lv_aload_n hx hb dX7_write_31 rfl (lv_at hl 1 rfl) ?_
        replace h := ob h; obtain ⟨v_8, hv_8, h⟩ := h
        refine fg_X7_34 hx hb hts hown hK hP hv_8 dX7_write_32 ?_
        replace h := ob h; obtain ⟨v_9, hv_9, h⟩ := h
        refine alen2 hx hb hK hP rfl hv_9 dX7_write_35 ?_
        refine lv_icmp_le (tgt := 40) hx hb dX7_write_36 (by decide) (fun c_10 => ?_) (fun c_10 => ?_)
        · skip
          replace h := (if_pos c_10).symm.trans h
          refine lv_aload_n hx hb dX7_write_40 rfl (lv_at hl 1 rfl) ?_
          replace h := ob h; obtain ⟨v_11, hv_11, h⟩ := h
          refine fg_X7_34 hx hb hts hown hK hP hv_11 dX7_write_41 ?_
          refine lv_iconst (v := 0) hx hb dX7_write_44 (by decide) ?_
          refine lv_aload_n hx hb dX7_write_45 rfl (lv_at hl 1 rfl) ?_
          replace h := ob h; obtain ⟨v_12, hv_12, h⟩ := h
          refine fg_X7_23 hx hb hts hown hK hP hv_12 dX7_write_46 ?_
          refine lv_iload hx hb dX7_write_49 (lv_at hl 0 rfl) ?_
          refine lv_iload_n hx hb dX7_write_51 rfl (lv_at hl 3 rfl) ?_
          replace h := ob h; obtain ⟨cs_13, hv_13, h⟩ := h
          refine acp2 hx hb (hml.trans hl.1.symm) hown (hts _ (List.mem_cons_of_mem _ kw_1598)) (hts _ (List.mem_cons_of_mem _ kw_820)) (hts _ (List.mem_cons_of_mem _ kw_819)) (hts _ (List.mem_cons_of_mem _ kw_202)) hK hP hD hS rfl rfl hv_13 (Nat.le_of_ble_eq_true rfl) (Nat.le_of_ble_eq_true rfl) dX7_write_52 (fun H locs hP hD hS => ?_)
          refine lv_aload_n hx hb dX7_write_55 rfl (lv_at hl 1 rfl) ?_
          replace h := ob h; obtain ⟨v_14, hv_14, h⟩ := h
          refine fg_X7_37 hx hb hts hown hK hP hv_14 dX7_write_56 ?_
          refine lv_iconst (v := 0) hx hb dX7_write_59 (by decide) ?_
          refine lv_aload_n hx hb dX7_write_60 rfl (lv_at hl 1 rfl) ?_
          replace h := ob h; obtain ⟨v_15, hv_15, h⟩ := h
          refine fg_X7_27 hx hb hts hown hK hP hv_15 dX7_write_61 ?_
          refine lv_iload hx hb dX7_write_64 (lv_at hl 0 rfl) ?_
          refine lv_iload_n hx hb dX7_write_66 rfl (lv_at hl 3 rfl) ?_
          replace h := ob h; obtain ⟨cs_16, hv_16, h⟩ := h
          refine acp1 hx hb (hml.trans hl.1.symm) hown (hts _ (List.mem_cons_of_mem _ kw_1598)) (hts _ (List.mem_cons_of_mem _ kw_820)) (hts _ (List.mem_cons_of_mem _ kw_819)) (hts _ (List.mem_cons_of_mem _ kw_202)) hK hP hD hS rfl rfl hv_16 (Nat.le_of_ble_eq_true rfl) (Nat.le_of_ble_eq_true rfl) dX7_write_67 (fun H locs hP hD hS => ?_)
          refine lv_aload_n hx hb dX7_write_70 rfl (lv_at hl 1 rfl) ?_
          replace h := ob h; obtain ⟨v_17, hv_17, h⟩ := h
          refine fg_X7_23 hx hb hts hown hK hP hv_17 dX7_write_71 ?_
          refine lv_iload hx hb dX7_write_74 (lv_at hl 0 rfl) ?_
          refine lv_iload_n hx hb dX7_write_76 rfl (lv_at hl 3 rfl) ?_
          refine lv_iadd hx hb dX7_write_77 ?_
          refine lv_lload_n hx hb dX7_write_78 rfl (lv_at hl 4 rfl) ?_
          replace h := ob h; obtain ⟨cs_18, hv_18, h⟩ := h
          refine ast2 hx hb hK hP hD hS rfl hv_18 dX7_write_79 (fun H locs hP hD hS => ?_)
          refine lv_aload_n hx hb dX7_write_80 rfl (lv_at hl 1 rfl) ?_
          replace h := ob h; obtain ⟨v_19, hv_19, h⟩ := h
          refine fg_X7_27 hx hb hts hown hK hP hv_19 dX7_write_81 ?_
          refine lv_iload hx hb dX7_write_84 (lv_at hl 0 rfl) ?_
          refine lv_iload_n hx hb dX7_write_86 rfl (lv_at hl 3 rfl) ?_
          refine lv_iadd hx hb dX7_write_87 ?_
          refine lv_iconst (v := 0) hx hb dX7_write_88 (by decide) ?_
          replace h := ob h; obtain ⟨cs_20, hv_20, h⟩ := h
          refine ast1 hx hb hK hP hD hS rfl hv_20 dX7_write_89 (fun H locs hP hD hS => ?_)
          refine lv_aload_n hx hb dX7_write_90 rfl (lv_at hl 1 rfl) ?_
          replace h := ob h; obtain ⟨v_21, hv_21, h⟩ := h
          refine fg_X7_31 hx hb hts hown hK hP hv_21 dX7_write_91 ?_
          refine lv_iload_n hx hb dX7_write_94 rfl (lv_at hl 2 rfl) ?_
          refine lv_iconst (v := 1) hx hb dX7_write_95 (by decide) ?_
          replace h := ob h; obtain ⟨cs_22, hv_22, h⟩ := h
          refine ast1 hx hb hK hP hD hS rfl hv_22 dX7_write_96 (fun H locs hP hD hS => ?_)
          have e1 := Option.some.inj h
          rw [e1] at hP hD
          exact W.vret hx hb hr (fun t_ ht hW => ⟨⟨(), rfl, trivial, by rw [ht]; exact hP, hD⟩, hS.F ht⟩) hS.2.2 dX7_write_97
        · skip
          replace h := (if_neg c_10).symm.trans h
          exact B_39 cs h _ _ _ hP hD hS (lv_sub hl [] rfl)
theorem dX7_settle_0 : decode cX7_settle 0 = .ok (.aload_n 0, 1) := by decide +kernel
theorem dX7_settle_1 : decode cX7_settle 1 = .ok (.getfield 48, 3) := by decide +kernel
theorem dX7_settle_4 : decode cX7_settle 4 = .ok (.istore 4, 2) := by decide +kernel
theorem dX7_settle_6 : decode cX7_settle 6 = .ok (.aload_n 0, 1) := by decide +kernel
theorem dX7_settle_7 : decode cX7_settle 7 = .ok (.iconst 0, 1) := by decide +kernel
theorem dX7_settle_8 : decode cX7_settle 8 = .ok (.putfield 48, 3) := by decide +kernel
theorem dX7_settle_11 : decode cX7_settle 11 = .ok (.aload_n 0, 1) := by decide +kernel
theorem dX7_settle_12 : decode cX7_settle 12 = .ok (.iload_n 1, 1) := by decide +kernel
theorem dX7_settle_13 : decode cX7_settle 13 = .ok (.invokevirtual 44, 3) := by decide +kernel
theorem dX7_settle_16 : decode cX7_settle 16 = .ok (.ifCond .eq 13, 3) := by decide +kernel
theorem dX7_settle_19 : decode cX7_settle 19 = .ok (.iload 4, 2) := by decide +kernel
theorem dX7_settle_21 : decode cX7_settle 21 = .ok (.aload_n 0, 1) := by decide +kernel
theorem dX7_settle_22 : decode cX7_settle 22 = .ok (.iload_n 1, 1) := by decide +kernel
theorem dX7_settle_23 : decode cX7_settle 23 = .ok (.invokevirtual 51, 3) := by decide +kernel
theorem dX7_settle_26 : decode cX7_settle 26 = .ok (.if_icmp .eq 5, 3) := by decide +kernel
theorem dX7_settle_29 : decode cX7_settle 29 = .ok (.iconst (-1), 1) := by decide +kernel
theorem dX7_settle_30 : decode cX7_settle 30 = .ok (.ireturn, 1) := by decide +kernel
theorem dX7_settle_31 : decode cX7_settle 31 = .ok (.aload_n 0, 1) := by decide +kernel
theorem dX7_settle_32 : decode cX7_settle 32 = .ok (.iload_n 1, 1) := by decide +kernel
theorem dX7_settle_33 : decode cX7_settle 33 = .ok (.invokevirtual 55, 3) := by decide +kernel
theorem dX7_settle_36 : decode cX7_settle 36 = .ok (.istore 5, 2) := by decide +kernel
theorem dX7_settle_38 : decode cX7_settle 38 = .ok (.iload 5, 2) := by decide +kernel
theorem dX7_settle_40 : decode cX7_settle 40 = .ok (.iconst (-1), 1) := by decide +kernel
theorem dX7_settle_41 : decode cX7_settle 41 = .ok (.if_icmp .eq 17, 3) := by decide +kernel
theorem dX7_settle_44 : decode cX7_settle 44 = .ok (.aload_n 0, 1) := by decide +kernel
theorem dX7_settle_45 : decode cX7_settle 45 = .ok (.iload_n 1, 1) := by decide +kernel
theorem dX7_settle_46 : decode cX7_settle 46 = .ok (.bipush 8, 2) := by decide +kernel
theorem dX7_settle_48 : decode cX7_settle 48 = .ok (.imul, 1) := by decide +kernel
theorem dX7_settle_49 : decode cX7_settle 49 = .ok (.iload 5, 2) := by decide +kernel
theorem dX7_settle_51 : decode cX7_settle 51 = .ok (.iadd, 1) := by decide +kernel
theorem dX7_settle_52 : decode cX7_settle 52 = .ok (.iload 4, 2) := by decide +kernel
theorem dX7_settle_54 : decode cX7_settle 54 = .ok (.lload_n 2, 1) := by decide +kernel
theorem dX7_settle_55 : decode cX7_settle 55 = .ok (.invokevirtual 58, 3) := by decide +kernel
theorem dX7_settle_58 : decode cX7_settle 58 = .ok (.iload 5, 2) := by decide +kernel
theorem dX7_settle_60 : decode cX7_settle 60 = .ok (.ireturn, 1) := by decide +kernel
def c_X7_settle_b29 (F : Nat) (cs1 : CS) : Option (CS × Int32) := some (cs1, (-1))
def c_X7_settle_b58 (F : Nat) (cs1 : CS) (u5 : Int32) : Option (CS × Int32) := some (cs1, u5)
def c_X7_settle (F : Nat) (cs : CS) (x0 : Nat) (x1 : Int32) (x2 : Int64) : Option (CS × Int32) := Option.bind (gI cs 8 264 x0) fun v_1 => Option.bind (pI cs 8 264 x0 0) fun cs_2 => Option.bind (ckE cs_2 8 x0) fun _ => Option.bind (c_X7_exists F cs_2 x0 x1) fun v_3 => if v_3 = 0 then (c_X7_settle_b29 F cs_2) else (Option.bind (ckE cs_2 8 x0) fun _ => Option.bind (c_X7_columnCount F cs_2 x0 x1) fun v_6 => if v_1 = v_6 then (Option.bind (ckE cs_2 8 x0) fun _ => Option.bind (c_X7_freePlace F cs_2 x0 x1) fun v_9 => if v_9 = (-1) then (c_X7_settle_b58 F cs_2 v_9) else (Option.bind (ckE cs_2 8 x0) fun _ => Option.bind (c_X7_write F cs_2 x0 ((x1 * 8) + v_9) v_1 x2) fun cs_12 => c_X7_settle_b58 F cs_12 v_9)) else (c_X7_settle_b29 F cs_2))
theorem cw_X11_X7_settle {R : Room} {s : State} {args : Array Value} {y0 : MethodName} {c0 : ByteArray} {n0 : Nat} {r0 : Option FieldType} (hts : ∀ w ∈ wsOf y0 c0 n0 r0, w.before args s = true) {fr : Nat} (h1 : fr + 1 ≤ R.frames) (h2 : 8 + (6 + 11) + 60 * fr ≤ R.locals) : CallW R s args RX11 RX7 135 yX7_settle cX7_settle 6 (some .int) (wsOf yX7_settle cX7_settle 6 (some .int)) ({ frames := fr, cells := 0, slots := 0, locals := 60 * fr } : Room) 0 0 2 := cwV 2 hts (gd_all (in_V kw_1585 kw_1586 kw_1587 kw_182 kc_X7_settle)) rfl rfl rfl (by decide +kernel) ⟨h1, h2⟩
set_option maxHeartbeats 4000000 in
set_option maxRecDepth 100000 in
theorem sc_X7_settle (l : Launch) (dC : Nat → ClassId) (dI : Nat → Nat → Nat) (cB cI cJ cZ cS cO : ClassId) (b : Nat) (K V : Nat → Nat) (fz : Value) (F : Nat) (cs : CS) (x0 : Nat) (x1 : Int32) (x2 : Int64) (cs9 : CS) (r9 : Int32) (hf : c_X7_settle F cs x0 x1 x2 = some (cs9, r9)) : ocI l dC dI cB cI cJ cZ cS cO b K V fz yX7_settle (wsOf yX7_settle cX7_settle 6 (some .int)) (3) [.ref (b + x0), .int x1, .long x2] cs cs9 r9 := by
  intro sz
  refine Met.ofW (cc := cX7_settle) (maxL := 6) (ret := (some .int)) (by decide) rfl ?_
  intro p e s m args below meth c s₁ B hml hv
  obtain ⟨rfl, hsz, hP, hK, hD0, hZ⟩ := hv
  have hx := B.exec
  have hb := B.bytes
  have hr := B.returns
  have hts := atoms_spec (ws := (wsOf yX7_settle cX7_settle 6 (some .int))) B.pre
  have hown : s.vm.findClass RX7 = some m.cls := findClass_of_methodNamed B.named
  have hlocks := B.notSynchronized
  subst hsz
  have hD := hD0.self (sz := s.heap.size)
  generalize hAe : va_A (cW cB cI cJ cZ cS cO b cs) s.heap.size = A at hD hZ ⊢
  have hA : ∀ q : Nat, s.heap.size ≤ q → A q := fun q h => by rw [← hAe]; exact Or.inr h
  have hS : va_S A s.heap s.heap [] := va_S.rf
  have hl := lv_entry ([.ref (b + x0), .int x1, .long x2]) (n := 6) (Nat.le_of_ble_eq_true rfl)
  rw [lg_entry_eq]
  generalize (lg_sl ([.ref (b + x0), .int x1, .long x2]) ++ List.replicate (6 - (lg_sl ([.ref (b + x0), .int x1, .long x2])).length) Slot.unset).toArray = ls at hl ⊢
  have hl : lv_has ls 6 [(0, .ref (b + x0)), (1, .int x1), (2, .long x2)] := hl
  have B_29 : ∀ (cs1 : CS) , c_X7_settle_b29 F cs1 = some (cs9, r9) → ∀ (H : Heap) (locs : List Loc) (ls : Array Slot), va_P (dC, dI) vwCl (cW cB cI cJ cZ cS cO b cs1) H → va_D A (cW cB cI cJ cZ cS cO b cs1) → va_S A s.heap H locs → lv_has ls 6 [] → W p l e (headSpec (wsOf yX7_settle cX7_settle 6 (some .int)) ({ frames := 3, cells := 0, slots := 0, locals := 60 * (3) } : Room)).room s m ([.ref (b + x0), .int x1, .long x2] : List Value).toArray below meth c H locs 0 0 (MQ below (va_Qi (fun (x : Int32) (_ : Unit) => x = r9) (fun _ t_ => va_P (dC, dI) vwCl (cW cB cI cJ cZ cS cO b cs9) t_.heap ∧ va_D A (cW cB cI cJ cZ cS cO b cs9)) A) ([.ref (b + x0), .int x1, .long x2] : List Value).toArray s 0 0 A) (F0 m 29 ls []) := by
    intro cs1  h H locs ls hP hD hS hl
    unfold c_X7_settle_b29 at h
    refine lv_iconst (v := (-1)) hx hb dX7_settle_29 (by decide) ?_
    obtain ⟨e1, e2⟩ := Prod.mk.inj (Option.some.inj h)
    rw [e1] at hP hD
    exact W.iret (v := (-1)) hx hb hr (fun t_ ht hW => ⟨⟨(-1), (), rfl, e2, by rw [ht]; exact hP, hD⟩, hS.F ht⟩) hS.2.2 dX7_settle_30
  have B_58 : ∀ (cs1 : CS) (u5 : Int32), c_X7_settle_b58 F cs1 u5 = some (cs9, r9) → ∀ (H : Heap) (locs : List Loc) (ls : Array Slot), va_P (dC, dI) vwCl (cW cB cI cJ cZ cS cO b cs1) H → va_D A (cW cB cI cJ cZ cS cO b cs1) → va_S A s.heap H locs → lv_has ls 6 [(5, .int u5)] → W p l e (headSpec (wsOf yX7_settle cX7_settle 6 (some .int)) ({ frames := 3, cells := 0, slots := 0, locals := 60 * (3) } : Room)).room s m ([.ref (b + x0), .int x1, .long x2] : List Value).toArray below meth c H locs 0 0 (MQ below (va_Qi (fun (x : Int32) (_ : Unit) => x = r9) (fun _ t_ => va_P (dC, dI) vwCl (cW cB cI cJ cZ cS cO b cs9) t_.heap ∧ va_D A (cW cB cI cJ cZ cS cO b cs9)) A) ([.ref (b + x0), .int x1, .long x2] : List Value).toArray s 0 0 A) (F0 m 58 ls []) := by
    intro cs1 u5 h H locs ls hP hD hS hl
    unfold c_X7_settle_b58 at h
    refine lv_iload hx hb dX7_settle_58 (lv_at hl 0 rfl) ?_
    obtain ⟨e1, e2⟩ := Prod.mk.inj (Option.some.inj h)
    rw [e1] at hP hD
    exact W.iret (v := u5) hx hb hr (fun t_ ht hW => ⟨⟨u5, (), rfl, e2, by rw [ht]; exact hP, hD⟩, hS.F ht⟩) hS.2.2 dX7_settle_60
  have h := hf
  unfold c_X7_settle at h
  refine lv_aload_n hx hb dX7_settle_0 rfl (lv_at hl 0 rfl) ?_
  replace h := ob h; obtain ⟨v_1, hv_1, h⟩ := h
  refine fg_X7_48 hx hb hts hown hK hP hv_1 dX7_settle_1 ?_
  refine lv_istore (lv' := [(4, .int v_1), (0, .ref (b + x0)), (1, .int x1), (2, .long x2)]) hx hb dX7_settle_4 hl (by decide) rfl (fun ls hl => ?_)
  refine lv_aload_n hx hb dX7_settle_6 rfl (lv_at hl 1 rfl) ?_
  refine lv_iconst (v := 0) hx hb dX7_settle_7 (by decide) ?_
  replace h := ob h; obtain ⟨cs_2, hv_2, h⟩ := h
  refine fp_X7_48 hx hb hts hown hK hP hD hS hv_2 dX7_settle_8 (fun H locs hP hD hS => ?_)
  refine lv_aload_n hx hb dX7_settle_11 rfl (lv_at hl 1 rfl) ?_
  refine lv_iload_n hx hb dX7_settle_12 rfl (lv_at hl 2 rfl) ?_
  replace h := ob h; obtain ⟨w_4, hw_4, h⟩ := h
  replace h := ob h; obtain ⟨v_3, hv_3, h⟩ := h
  refine ccI (As := [.int x1]) hx hb hml hts hown hK hP hD hS hA hZ (X := 8) (by decide) rfl (ckE_some hw_4) (sc_X7_exists l dC dI cB cI cJ cZ cS cO b K V fz F cs_2 x0 x1 v_3 hv_3) (cw_X7_X7_exists hts (fr := 0) (Nat.le_of_ble_eq_true rfl) (Nat.le_of_ble_eq_true rfl)) rfl hl.1 (Nat.le_of_ble_eq_true rfl) ⟨Nat.zero_le _, Nat.zero_le _⟩ dX7_settle_13 (fun H locs hP hD hS => ?_)
  refine lv_if_eq (tgt := 29) hx hb dX7_settle_16 (by decide) (fun c_5 => ?_) (fun c_5 => ?_)
  · skip
    replace h := (if_pos c_5).symm.trans h
    exact B_29 cs_2 h _ _ _ hP hD hS (lv_sub hl [] rfl)
  · skip
    replace h := (if_neg c_5).symm.trans h
    refine lv_iload hx hb dX7_settle_19 (lv_at hl 0 rfl) ?_
    refine lv_aload_n hx hb dX7_settle_21 rfl (lv_at hl 1 rfl) ?_
    refine lv_iload_n hx hb dX7_settle_22 rfl (lv_at hl 2 rfl) ?_
    replace h := ob h; obtain ⟨w_7, hw_7, h⟩ := h
    replace h := ob h; obtain ⟨v_6, hv_6, h⟩ := h
    refine ccI (As := [.int x1]) hx hb hml hts hown hK hP hD hS hA hZ (X := 8) (by decide) rfl (ckE_some hw_7) (sc_X7_columnCount l dC dI cB cI cJ cZ cS cO b K V fz F cs_2 x0 x1 v_6 hv_6) (cw_X7_X7_columnCount hts (fr := 1) (Nat.le_of_ble_eq_true rfl) (Nat.le_of_ble_eq_true rfl)) rfl hl.1 (Nat.le_of_ble_eq_true rfl) ⟨Nat.zero_le _, Nat.zero_le _⟩ dX7_settle_23 (fun H locs hP hD hS => ?_)
    refine lv_icmp_eq (tgt := 31) hx hb dX7_settle_26 (by decide) (fun c_8 => ?_) (fun c_8 => ?_)
    · skip
      replace h := (if_pos c_8).symm.trans h
      refine lv_aload_n hx hb dX7_settle_31 rfl (lv_at hl 1 rfl) ?_
      refine lv_iload_n hx hb dX7_settle_32 rfl (lv_at hl 2 rfl) ?_
      replace h := ob h; obtain ⟨w_10, hw_10, h⟩ := h
      replace h := ob h; obtain ⟨v_9, hv_9, h⟩ := h
      refine ccI (As := [.int x1]) hx hb hml hts hown hK hP hD hS hA hZ (X := 8) (by decide) rfl (ckE_some hw_10) (sc_X7_freePlace l dC dI cB cI cJ cZ cS cO b K V fz F cs_2 x0 x1 v_9 hv_9) (cw_X7_X7_freePlace hts (fr := 2) (Nat.le_of_ble_eq_true rfl) (Nat.le_of_ble_eq_true rfl)) rfl hl.1 (Nat.le_of_ble_eq_true rfl) ⟨Nat.zero_le _, Nat.zero_le _⟩ dX7_settle_33 (fun H locs hP hD hS => ?_)
      refine lv_istore (lv' := [(5, .int v_9), (4, .int v_1), (0, .ref (b + x0)), (1, .int x1), (2, .long x2)]) hx hb dX7_settle_36 hl (by decide) rfl (fun ls hl => ?_)
      refine lv_iload hx hb dX7_settle_38 (lv_at hl 0 rfl) ?_
      refine lv_iconst (v := (-1)) hx hb dX7_settle_40 (by decide) ?_
      refine lv_icmp_eq (tgt := 58) hx hb dX7_settle_41 (by decide) (fun c_11 => ?_) (fun c_11 => ?_)
      · skip
        replace h := (if_pos c_11).symm.trans h
        exact B_58 cs_2 v_9 h _ _ _ hP hD hS (lv_sub hl [0] rfl)
      · skip
        replace h := (if_neg c_11).symm.trans h
        refine lv_aload_n hx hb dX7_settle_44 rfl (lv_at hl 2 rfl) ?_
        refine lv_iload_n hx hb dX7_settle_45 rfl (lv_at hl 3 rfl) ?_
        refine lv_bipush (v := 8) hx hb dX7_settle_46 (by decide) ?_
        refine lv_imul hx hb dX7_settle_48 ?_
        refine lv_iload hx hb dX7_settle_49 (lv_at hl 0 rfl) ?_
        refine lv_iadd hx hb dX7_settle_51 ?_
        refine lv_iload hx hb dX7_settle_52 (lv_at hl 1 rfl) ?_
        refine lv_lload_n hx hb dX7_settle_54 rfl (lv_at hl 4 rfl) ?_
        replace h := ob h; obtain ⟨w_13, hw_13, h⟩ := h
        replace h := ob h; obtain ⟨cs_12, hv_12, h⟩ := h
        refine ccV (As := [.int ((x1 * 8) + v_9), .int v_1, .long x2]) hx hb hml hts hown hK hP hD hS hA hZ (X := 8) (by decide) rfl (ckE_some hw_13) (sc_X7_write l dC dI cB cI cJ cZ cS cO b K V fz F cs_2 x0 ((x1 * 8) + v_9) v_1 x2 cs_12 hv_12) (cw_X7_X7_write hts (fr := 1) (Nat.le_of_ble_eq_true rfl) (Nat.le_of_ble_eq_true rfl)) rfl hl.1 (Nat.le_of_ble_eq_true rfl) ⟨Nat.zero_le _, Nat.zero_le _⟩ dX7_settle_55 (fun H locs hP hD hS => ?_)
        exact B_58 cs_12 v_9 h _ _ _ hP hD hS (lv_sub hl [0] rfl)
    · skip
      replace h := (if_neg c_8).symm.trans h
      exact B_29 cs_2 h _ _ _ hP hD hS (lv_sub hl [] rfl)
theorem dX7_remove_0 : decode cX7_remove 0 = .ok (.aload_n 0, 1) := by decide +kernel
theorem dX7_remove_1 : decode cX7_remove 1 = .ok (.iload_n 1, 1) := by decide +kernel
theorem dX7_remove_2 : decode cX7_remove 2 = .ok (.iload_n 2, 1) := by decide +kernel
theorem dX7_remove_3 : decode cX7_remove 3 = .ok (.invokevirtual 62, 3) := by decide +kernel
theorem dX7_remove_6 : decode cX7_remove 6 = .ok (.ifCond .ne 5, 3) := by decide +kernel
theorem dX7_remove_9 : decode cX7_remove 9 = .ok (.iconst 0, 1) := by decide +kernel
theorem dX7_remove_10 : decode cX7_remove 10 = .ok (.ireturn, 1) := by decide +kernel
theorem dX7_remove_11 : decode cX7_remove 11 = .ok (.aload_n 0, 1) := by decide +kernel
theorem dX7_remove_12 : decode cX7_remove 12 = .ok (.getfield 31, 3) := by decide +kernel
theorem dX7_remove_15 : decode cX7_remove 15 = .ok (.iload_n 1, 1) := by decide +kernel
theorem dX7_remove_16 : decode cX7_remove 16 = .ok (.bipush 8, 2) := by decide +kernel
theorem dX7_remove_18 : decode cX7_remove 18 = .ok (.imul, 1) := by decide +kernel
theorem dX7_remove_19 : decode cX7_remove 19 = .ok (.iload_n 2, 1) := by decide +kernel
theorem dX7_remove_20 : decode cX7_remove 20 = .ok (.iadd, 1) := by decide +kernel
theorem dX7_remove_21 : decode cX7_remove 21 = .ok (.iconst 0, 1) := by decide +kernel
theorem dX7_remove_22 : decode cX7_remove 22 = .ok (.bastore, 1) := by decide +kernel
theorem dX7_remove_23 : decode cX7_remove 23 = .ok (.iconst 1, 1) := by decide +kernel
theorem dX7_remove_24 : decode cX7_remove 24 = .ok (.ireturn, 1) := by decide +kernel
def c_X7_remove (F : Nat) (cs : CS) (x0 : Nat) (x1 : Int32) (x2 : Int32) : Option (CS × Int32) := Option.bind (ckE cs 8 x0) fun _ => Option.bind (c_X7_holds F cs x0 x1 x2) fun v_1 => if v_1 = 0 then (some (cs, 0)) else (Option.bind (gA cs 8 261 x0) fun v_4 => Option.bind (wA cs 261 x0 v_4 ((x1 * 8) + x2) (vp_nar .byte 0)) fun cs_5 => some (cs_5, 1))
theorem cw_X11_X7_remove {R : Room} {s : State} {args : Array Value} {y0 : MethodName} {c0 : ByteArray} {n0 : Nat} {r0 : Option FieldType} (hts : ∀ w ∈ wsOf y0 c0 n0 r0, w.before args s = true) {fr : Nat} (h1 : fr + 1 ≤ R.frames) (h2 : 8 + (3 + 11) + 60 * fr ≤ R.locals) : CallW R s args RX11 RX7 139 yX7_remove cX7_remove 3 (some .boolean) (wsOf yX7_remove cX7_remove 3 (some .boolean)) ({ frames := fr, cells := 0, slots := 0, locals := 60 * fr } : Room) 0 0 2 := cwV 2 hts (gd_all (in_V kw_1603 kw_1604 kw_1605 kw_182 kc_X7_remove)) rfl rfl rfl (by decide +kernel) ⟨h1, h2⟩
set_option maxHeartbeats 4000000 in
set_option maxRecDepth 100000 in
theorem sc_X7_remove (l : Launch) (dC : Nat → ClassId) (dI : Nat → Nat → Nat) (cB cI cJ cZ cS cO : ClassId) (b : Nat) (K V : Nat → Nat) (fz : Value) (F : Nat) (cs : CS) (x0 : Nat) (x1 : Int32) (x2 : Int32) (cs9 : CS) (r9 : Int32) (hf : c_X7_remove F cs x0 x1 x2 = some (cs9, r9)) : ocI l dC dI cB cI cJ cZ cS cO b K V fz yX7_remove (wsOf yX7_remove cX7_remove 3 (some .boolean)) (2) [.ref (b + x0), .int x1, .int x2] cs cs9 r9 := by
  intro sz
  refine Met.ofW (cc := cX7_remove) (maxL := 3) (ret := (some .boolean)) (by decide) rfl ?_
  intro p e s m args below meth c s₁ B hml hv
  obtain ⟨rfl, hsz, hP, hK, hD0, hZ⟩ := hv
  have hx := B.exec
  have hb := B.bytes
  have hr := B.returns
  have hts := atoms_spec (ws := (wsOf yX7_remove cX7_remove 3 (some .boolean))) B.pre
  have hown : s.vm.findClass RX7 = some m.cls := findClass_of_methodNamed B.named
  have hlocks := B.notSynchronized
  subst hsz
  have hD := hD0.self (sz := s.heap.size)
  generalize hAe : va_A (cW cB cI cJ cZ cS cO b cs) s.heap.size = A at hD hZ ⊢
  have hA : ∀ q : Nat, s.heap.size ≤ q → A q := fun q h => by rw [← hAe]; exact Or.inr h
  have hS : va_S A s.heap s.heap [] := va_S.rf
  have hl := lv_entry ([.ref (b + x0), .int x1, .int x2]) (n := 3) (Nat.le_of_ble_eq_true rfl)
  rw [lg_entry_eq]
  generalize (lg_sl ([.ref (b + x0), .int x1, .int x2]) ++ List.replicate (3 - (lg_sl ([.ref (b + x0), .int x1, .int x2])).length) Slot.unset).toArray = ls at hl ⊢
  have hl : lv_has ls 3 [(0, .ref (b + x0)), (1, .int x1), (2, .int x2)] := hl
  have h := hf
  unfold c_X7_remove at h
  refine lv_aload_n hx hb dX7_remove_0 rfl (lv_at hl 0 rfl) ?_
  refine lv_iload_n hx hb dX7_remove_1 rfl (lv_at hl 1 rfl) ?_
  refine lv_iload_n hx hb dX7_remove_2 rfl (lv_at hl 2 rfl) ?_
  replace h := ob h; obtain ⟨w_2, hw_2, h⟩ := h
  replace h := ob h; obtain ⟨v_1, hv_1, h⟩ := h
  refine ccI (As := [.int x1, .int x2]) hx hb hml hts hown hK hP hD hS hA hZ (X := 8) (by decide) rfl (ckE_some hw_2) (sc_X7_holds l dC dI cB cI cJ cZ cS cO b K V fz F cs x0 x1 x2 v_1 hv_1) (cw_X7_X7_holds hts (fr := 1) (Nat.le_of_ble_eq_true rfl) (Nat.le_of_ble_eq_true rfl)) rfl hl.1 (Nat.le_of_ble_eq_true rfl) ⟨Nat.zero_le _, Nat.zero_le _⟩ dX7_remove_3 (fun H locs hP hD hS => ?_)
  refine lv_if_ne (tgt := 11) hx hb dX7_remove_6 (by decide) (fun c_3 => ?_) (fun c_3 => ?_)
  · skip
    replace h := (if_neg c_3).symm.trans h
    refine lv_aload_n hx hb dX7_remove_11 rfl (lv_at hl 0 rfl) ?_
    replace h := ob h; obtain ⟨v_4, hv_4, h⟩ := h
    refine fg_X7_31 hx hb hts hown hK hP hv_4 dX7_remove_12 ?_
    refine lv_iload_n hx hb dX7_remove_15 rfl (lv_at hl 1 rfl) ?_
    refine lv_bipush (v := 8) hx hb dX7_remove_16 (by decide) ?_
    refine lv_imul hx hb dX7_remove_18 ?_
    refine lv_iload_n hx hb dX7_remove_19 rfl (lv_at hl 2 rfl) ?_
    refine lv_iadd hx hb dX7_remove_20 ?_
    refine lv_iconst (v := 0) hx hb dX7_remove_21 (by decide) ?_
    replace h := ob h; obtain ⟨cs_5, hv_5, h⟩ := h
    refine ast1 hx hb hK hP hD hS rfl hv_5 dX7_remove_22 (fun H locs hP hD hS => ?_)
    refine lv_iconst (v := 1) hx hb dX7_remove_23 (by decide) ?_
    obtain ⟨e1, e2⟩ := Prod.mk.inj (Option.some.inj h)
    rw [e1] at hP hD
    exact W.zret (v := 1) hx hb hr (nzN (Or.inr rfl)) (fun t_ ht hW => ⟨⟨1, (), rfl, e2, by rw [ht]; exact hP, hD⟩, hS.F ht⟩) hS.2.2 dX7_remove_24
  · skip
    replace h := (if_pos c_3).symm.trans h
    refine lv_iconst (v := 0) hx hb dX7_remove_9 (by decide) ?_
    obtain ⟨e1, e2⟩ := Prod.mk.inj (Option.some.inj h)
    rw [e1] at hP hD
    exact W.zret (v := 0) hx hb hr (nzN (Or.inl rfl)) (fun t_ ht hW => ⟨⟨0, (), rfl, e2, by rw [ht]; exact hP, hD⟩, hS.F ht⟩) hS.2.2 dX7_remove_10
theorem dX7_rowCount_0 : decode cX7_rowCount 0 = .ok (.iconst 0, 1) := by decide +kernel
theorem dX7_rowCount_1 : decode cX7_rowCount 1 = .ok (.istore_n 1, 1) := by decide +kernel
theorem dX7_rowCount_2 : decode cX7_rowCount 2 = .ok (.iconst 0, 1) := by decide +kernel
theorem dX7_rowCount_3 : decode cX7_rowCount 3 = .ok (.istore_n 2, 1) := by decide +kernel
theorem dX7_rowCount_4 : decode cX7_rowCount 4 = .ok (.iload_n 2, 1) := by decide +kernel
theorem dX7_rowCount_5 : decode cX7_rowCount 5 = .ok (.aload_n 0, 1) := by decide +kernel
theorem dX7_rowCount_6 : decode cX7_rowCount 6 = .ok (.getfield 31, 3) := by decide +kernel
theorem dX7_rowCount_9 : decode cX7_rowCount 9 = .ok (.arraylength, 1) := by decide +kernel
theorem dX7_rowCount_10 : decode cX7_rowCount 10 = .ok (.if_icmp .ge 18, 3) := by decide +kernel
theorem dX7_rowCount_13 : decode cX7_rowCount 13 = .ok (.iload_n 1, 1) := by decide +kernel
theorem dX7_rowCount_14 : decode cX7_rowCount 14 = .ok (.aload_n 0, 1) := by decide +kernel
theorem dX7_rowCount_15 : decode cX7_rowCount 15 = .ok (.getfield 31, 3) := by decide +kernel
theorem dX7_rowCount_18 : decode cX7_rowCount 18 = .ok (.iload_n 2, 1) := by decide +kernel
theorem dX7_rowCount_19 : decode cX7_rowCount 19 = .ok (.baload, 1) := by decide +kernel
theorem dX7_rowCount_20 : decode cX7_rowCount 20 = .ok (.iadd, 1) := by decide +kernel
theorem dX7_rowCount_21 : decode cX7_rowCount 21 = .ok (.istore_n 1, 1) := by decide +kernel
theorem dX7_rowCount_22 : decode cX7_rowCount 22 = .ok (.iinc 2 1, 3) := by decide +kernel
theorem dX7_rowCount_25 : decode cX7_rowCount 25 = .ok (.goto (-21), 3) := by decide +kernel
theorem dX7_rowCount_28 : decode cX7_rowCount 28 = .ok (.iload_n 1, 1) := by decide +kernel
theorem dX7_rowCount_29 : decode cX7_rowCount 29 = .ok (.ireturn, 1) := by decide +kernel
def c_X7_rowCount_L4 (F : Nat) (cs : CS) : Nat → Nat → Int32 → Int32 → Option Int32
  | 0, _, _, _ => none
  | lf_4 + 1, u0, u1, u2 => Option.bind (gA cs 8 261 u0) fun v_1 => Option.bind (lnA cs 261 u0 v_1) fun v_2 => if v_2 ≤ u2 then (some u1) else (Option.bind (gA cs 8 261 u0) fun v_4 => Option.bind (rA cs 261 u0 v_4 u2) fun v_5 => (c_X7_rowCount_L4 F cs lf_4) u0 (u1 + v_5) (u2 + 1))
def c_X7_rowCount (F : Nat) (cs : CS) (x0 : Nat) : Option Int32 := c_X7_rowCount_L4 F cs F x0 0 0
theorem cw_X11_X7_rowCount {R : Room} {s : State} {args : Array Value} {y0 : MethodName} {c0 : ByteArray} {n0 : Nat} {r0 : Option FieldType} (hts : ∀ w ∈ wsOf y0 c0 n0 r0, w.before args s = true) {fr : Nat} (h1 : fr + 1 ≤ R.frames) (h2 : 8 + (3 + 11) + 60 * fr ≤ R.locals) : CallW R s args RX11 RX7 182 yX7_rowCount cX7_rowCount 3 (some .int) (wsOf yX7_rowCount cX7_rowCount 3 (some .int)) ({ frames := fr, cells := 0, slots := 0, locals := 60 * fr } : Room) 0 0 0 := cwV 0 hts (gd_all (in_V kw_1677 kw_1678 kw_1679 kw_182 kc_X7_rowCount)) rfl rfl rfl (by decide +kernel) ⟨h1, h2⟩
set_option maxHeartbeats 4000000 in
set_option maxRecDepth 100000 in
theorem sc_X7_rowCount (l : Launch) (dC : Nat → ClassId) (dI : Nat → Nat → Nat) (cB cI cJ cZ cS cO : ClassId) (b : Nat) (K V : Nat → Nat) (fz : Value) (F : Nat) (cs : CS) (x0 : Nat) (r9 : Int32) (hf : c_X7_rowCount F cs x0 = some r9) : ocI l dC dI cB cI cJ cZ cS cO b K V fz yX7_rowCount (wsOf yX7_rowCount cX7_rowCount 3 (some .int)) (0) [.ref (b + x0)] cs cs r9 := by
  intro sz
  refine Met.ofW (cc := cX7_rowCount) (maxL := 3) (ret := (some .int)) (by decide) rfl ?_
  intro p e s m args below meth c s₁ B hml hv
  obtain ⟨rfl, hsz, hP, hK, hD0, hZ⟩ := hv
  have hx := B.exec
  have hb := B.bytes
  have hr := B.returns
  have hts := atoms_spec (ws := (wsOf yX7_rowCount cX7_rowCount 3 (some .int))) B.pre
  have hown : s.vm.findClass RX7 = some m.cls := findClass_of_methodNamed B.named
  have hlocks := B.notSynchronized
  subst hsz
  have hD := hD0.self (sz := s.heap.size)
  generalize hAe : va_A (cW cB cI cJ cZ cS cO b cs) s.heap.size = A at hD hZ ⊢
  have hA : ∀ q : Nat, s.heap.size ≤ q → A q := fun q h => by rw [← hAe]; exact Or.inr h
  have hS : va_S A s.heap s.heap [] := va_S.rf
  have hl := lv_entry ([.ref (b + x0)]) (n := 3) (Nat.le_of_ble_eq_true rfl)
  rw [lg_entry_eq]
  generalize (lg_sl ([.ref (b + x0)]) ++ List.replicate (3 - (lg_sl ([.ref (b + x0)])).length) Slot.unset).toArray = ls at hl ⊢
  have hl : lv_has ls 3 [(0, .ref (b + x0))] := hl
  have L_4 : ∀ (lf_4 : Nat), ∀ (u0 : Nat) (u1 : Int32) (u2 : Int32), c_X7_rowCount_L4 F cs lf_4 u0 u1 u2 = some r9 → ∀ (H : Heap) (locs : List Loc) (ls : Array Slot), va_P (dC, dI) vwCl (cW cB cI cJ cZ cS cO b cs) H → va_D A (cW cB cI cJ cZ cS cO b cs) → va_S A s.heap H locs → lv_has ls 3 [(0, .ref (b + u0)), (1, .int u1), (2, .int u2)] → W p l e (headSpec (wsOf yX7_rowCount cX7_rowCount 3 (some .int)) ({ frames := 0, cells := 0, slots := 0, locals := 60 * (0) } : Room)).room s m ([.ref (b + x0)] : List Value).toArray below meth c H locs 0 0 (MQ below (va_Qi (fun (x : Int32) (_ : Unit) => x = r9) (fun _ t_ => va_P (dC, dI) vwCl (cW cB cI cJ cZ cS cO b cs) t_.heap ∧ va_D A (cW cB cI cJ cZ cS cO b cs)) A) ([.ref (b + x0)] : List Value).toArray s 0 0 A) (F0 m 4 ls []) := by
    intro lf_4
    induction lf_4 with
    | zero => intro u0 u1 u2 h; cases (show (none : Option Int32) = _ from h)
    | succ lf_4 ih_4 =>
      intro u0 u1 u2 h H locs ls hP hD hS hl
      rw [c_X7_rowCount_L4] at h
      refine lv_iload_n hx hb dX7_rowCount_4 rfl (lv_at hl 2 rfl) ?_
      refine lv_aload_n hx hb dX7_rowCount_5 rfl (lv_at hl 0 rfl) ?_
      replace h := ob h; obtain ⟨v_1, hv_1, h⟩ := h
      refine fg_X7_31 hx hb hts hown hK hP hv_1 dX7_rowCount_6 ?_
      replace h := ob h; obtain ⟨v_2, hv_2, h⟩ := h
      refine alen1 hx hb hK hP rfl hv_2 dX7_rowCount_9 ?_
      refine lv_icmp_ge (tgt := 28) hx hb dX7_rowCount_10 (by decide) (fun c_3 => ?_) (fun c_3 => ?_)
      · skip
        replace h := (if_pos c_3).symm.trans h
        refine lv_iload_n hx hb dX7_rowCount_28 rfl (lv_at hl 1 rfl) ?_
        have e2 := Option.some.inj h
        exact W.iret (v := u1) hx hb hr (fun t_ ht hW => ⟨⟨u1, (), rfl, e2, by rw [ht]; exact hP, hD⟩, hS.F ht⟩) hS.2.2 dX7_rowCount_29
      · skip
        replace h := (if_neg c_3).symm.trans h
        refine lv_iload_n hx hb dX7_rowCount_13 rfl (lv_at hl 1 rfl) ?_
        refine lv_aload_n hx hb dX7_rowCount_14 rfl (lv_at hl 0 rfl) ?_
        replace h := ob h; obtain ⟨v_4, hv_4, h⟩ := h
        refine fg_X7_31 hx hb hts hown hK hP hv_4 dX7_rowCount_15 ?_
        refine lv_iload_n hx hb dX7_rowCount_18 rfl (lv_at hl 2 rfl) ?_
        replace h := ob h; obtain ⟨v_5, hv_5, h⟩ := h
        refine ald1 hx hb hK hP rfl hv_5 dX7_rowCount_19 ?_
        refine lv_iadd hx hb dX7_rowCount_20 ?_
        refine lv_istore_n (lv' := [(1, .int (u1 + v_5)), (0, .ref (b + u0)), (2, .int u2)]) hx hb dX7_rowCount_21 rfl hl (by decide) rfl (fun ls hl => ?_)
        refine lv_iinc (v := u2 + 1) (lv' := [(2, .int (u2 + 1)), (1, .int (u1 + v_5)), (0, .ref (b + u0))]) hx hb dX7_rowCount_22 hl (k := 2) rfl rfl (by decide) rfl (fun ls hl => ?_)
        refine lv_goto (tgt := 4) hx hb dX7_rowCount_25 (by decide) ?_
        exact ih_4 u0 (u1 + v_5) (u2 + 1) h _ _ _ hP hD hS (lv_sub hl [2, 1, 0] rfl)
  have h := hf
  unfold c_X7_rowCount at h
  refine lv_iconst (v := 0) hx hb dX7_rowCount_0 (by decide) ?_
  refine lv_istore_n (lv' := [(1, .int 0), (0, .ref (b + x0))]) hx hb dX7_rowCount_1 rfl hl (by decide) rfl (fun ls hl => ?_)
  refine lv_iconst (v := 0) hx hb dX7_rowCount_2 (by decide) ?_
  refine lv_istore_n (lv' := [(2, .int 0), (1, .int 0), (0, .ref (b + x0))]) hx hb dX7_rowCount_3 rfl hl (by decide) rfl (fun ls hl => ?_)
  exact L_4 F x0 0 0 h _ _ _ hP hD hS (lv_sub hl [2, 1, 0] rfl)
theorem dX7_shows_0 : decode cX7_shows 0 = .ok (.aload_n 0, 1) := by decide +kernel
theorem dX7_shows_1 : decode cX7_shows 1 = .ok (.iload_n 1, 1) := by decide +kernel
theorem dX7_shows_2 : decode cX7_shows 2 = .ok (.iload_n 2, 1) := by decide +kernel
theorem dX7_shows_3 : decode cX7_shows 3 = .ok (.invokevirtual 62, 3) := by decide +kernel
theorem dX7_shows_6 : decode cX7_shows 6 = .ok (.ifCond .ne 5, 3) := by decide +kernel
theorem dX7_shows_9 : decode cX7_shows 9 = .ok (.iconst 0, 1) := by decide +kernel
theorem dX7_shows_10 : decode cX7_shows 10 = .ok (.ireturn, 1) := by decide +kernel
theorem dX7_shows_11 : decode cX7_shows 11 = .ok (.aload_n 0, 1) := by decide +kernel
theorem dX7_shows_12 : decode cX7_shows 12 = .ok (.getfield 13, 3) := by decide +kernel
theorem dX7_shows_15 : decode cX7_shows 15 = .ok (.ldc2_w 11, 3) := by decide +kernel
theorem dX7_shows_18 : decode cX7_shows 18 = .ok (.lload_n 3, 1) := by decide +kernel
theorem dX7_shows_19 : decode cX7_shows 19 = .ok (.ladd, 1) := by decide +kernel
theorem dX7_shows_20 : decode cX7_shows 20 = .ok (.lcmp, 1) := by decide +kernel
theorem dX7_shows_21 : decode cX7_shows 21 = .ok (.ifCond .ge 9, 3) := by decide +kernel
theorem dX7_shows_24 : decode cX7_shows 24 = .ok (.ldc2_w 11, 3) := by decide +kernel
theorem dX7_shows_27 : decode cX7_shows 27 = .ok (.goto 9, 3) := by decide +kernel
theorem dX7_shows_30 : decode cX7_shows 30 = .ok (.aload_n 0, 1) := by decide +kernel
theorem dX7_shows_31 : decode cX7_shows 31 = .ok (.getfield 13, 3) := by decide +kernel
theorem dX7_shows_34 : decode cX7_shows 34 = .ok (.lload_n 3, 1) := by decide +kernel
theorem dX7_shows_35 : decode cX7_shows 35 = .ok (.lsub, 1) := by decide +kernel
theorem dX7_shows_36 : decode cX7_shows 36 = .ok (.lstore 5, 2) := by decide +kernel
theorem dX7_shows_38 : decode cX7_shows 38 = .ok (.aload_n 0, 1) := by decide +kernel
theorem dX7_shows_39 : decode cX7_shows 39 = .ok (.getfield 23, 3) := by decide +kernel
theorem dX7_shows_42 : decode cX7_shows 42 = .ok (.iload_n 1, 1) := by decide +kernel
theorem dX7_shows_43 : decode cX7_shows 43 = .ok (.bipush 8, 2) := by decide +kernel
theorem dX7_shows_45 : decode cX7_shows 45 = .ok (.imul, 1) := by decide +kernel
theorem dX7_shows_46 : decode cX7_shows 46 = .ok (.iload_n 2, 1) := by decide +kernel
theorem dX7_shows_47 : decode cX7_shows 47 = .ok (.iadd, 1) := by decide +kernel
theorem dX7_shows_48 : decode cX7_shows 48 = .ok (.iconst 5, 1) := by decide +kernel
theorem dX7_shows_49 : decode cX7_shows 49 = .ok (.imul, 1) := by decide +kernel
theorem dX7_shows_50 : decode cX7_shows 50 = .ok (.aload_n 0, 1) := by decide +kernel
theorem dX7_shows_51 : decode cX7_shows 51 = .ok (.getfield 19, 3) := by decide +kernel
theorem dX7_shows_54 : decode cX7_shows 54 = .ok (.iload_n 1, 1) := by decide +kernel
theorem dX7_shows_55 : decode cX7_shows 55 = .ok (.iaload, 1) := by decide +kernel
theorem dX7_shows_56 : decode cX7_shows 56 = .ok (.iadd, 1) := by decide +kernel
theorem dX7_shows_57 : decode cX7_shows 57 = .ok (.laload, 1) := by decide +kernel
theorem dX7_shows_58 : decode cX7_shows 58 = .ok (.lstore 7, 2) := by decide +kernel
theorem dX7_shows_60 : decode cX7_shows 60 = .ok (.lload_n 3, 1) := by decide +kernel
theorem dX7_shows_61 : decode cX7_shows 61 = .ok (.lconst 0, 1) := by decide +kernel
theorem dX7_shows_62 : decode cX7_shows 62 = .ok (.lcmp, 1) := by decide +kernel
theorem dX7_shows_63 : decode cX7_shows 63 = .ok (.ifCond .lt 11, 3) := by decide +kernel
theorem dX7_shows_66 : decode cX7_shows 66 = .ok (.lload 7, 2) := by decide +kernel
theorem dX7_shows_68 : decode cX7_shows 68 = .ok (.lload 5, 2) := by decide +kernel
theorem dX7_shows_70 : decode cX7_shows 70 = .ok (.lcmp, 1) := by decide +kernel
theorem dX7_shows_71 : decode cX7_shows 71 = .ok (.ifCond .lt 7, 3) := by decide +kernel
theorem dX7_shows_74 : decode cX7_shows 74 = .ok (.iconst 1, 1) := by decide +kernel
theorem dX7_shows_75 : decode cX7_shows 75 = .ok (.goto 4, 3) := by decide +kernel
theorem dX7_shows_78 : decode cX7_shows 78 = .ok (.iconst 0, 1) := by decide +kernel
theorem dX7_shows_79 : decode cX7_shows 79 = .ok (.ireturn, 1) := by decide +kernel
def c_X7_shows_b79 (F : Nat) (cs : CS) (y0 : Int32) : Option Int32 := Option.bind (ckZ y0) fun _ => some y0
def c_X7_shows_b74 (F : Nat) (cs : CS) : Option Int32 := c_X7_shows_b79 F cs 1
def c_X7_shows_b36 (F : Nat) (cs : CS) (u0 : Nat) (u1 : Int32) (u2 : Int32) (u3 : Int64) (y0 : Int64) : Option Int32 := Option.bind (gA cs 8 259 u0) fun v_2 => Option.bind (gA cs 8 258 u0) fun v_3 => Option.bind (rA cs 258 u0 v_3 u1) fun v_4 => Option.bind (rB cs 259 u0 v_2 ((((u1 * 8) + u2) * 5) + v_4)) fun v_5 => if u3 < 0 then (c_X7_shows_b74 F cs ) else (if v_5 < y0 then (c_X7_shows_b79 F cs 0) else (c_X7_shows_b74 F cs ))
def c_X7_shows (F : Nat) (cs : CS) (x0 : Nat) (x1 : Int32) (x2 : Int32) (x3 : Int64) : Option Int32 := Option.bind (ckE cs 8 x0) fun _ => Option.bind (c_X7_holds F cs x0 x1 x2) fun v_8 => if v_8 = 0 then (some 0) else (Option.bind (gJ cs 8 257 x0) fun v_11 => if ((-9223372036854775808) + x3) ≤ v_11 then (Option.bind (gJ cs 8 257 x0) fun v_13 => c_X7_shows_b36 F cs x0 x1 x2 x3 (v_13 - x3)) else (c_X7_shows_b36 F cs x0 x1 x2 x3 (-9223372036854775808)))
theorem cw_X4_X7_shows {R : Room} {s : State} {args : Array Value} {y0 : MethodName} {c0 : ByteArray} {n0 : Nat} {r0 : Option FieldType} (hts : ∀ w ∈ wsOf y0 c0 n0 r0, w.before args s = true) {fr : Nat} (h1 : fr + 1 ≤ R.frames) (h2 : 8 + (9 + 11) + 60 * fr ≤ R.locals) : CallW R s args RX4 RX7 206 yX7_shows cX7_shows 9 (some .boolean) (wsOf yX7_shows cX7_shows 9 (some .boolean)) ({ frames := fr, cells := 0, slots := 0, locals := 60 * fr } : Room) 0 0 3 := cwV 3 hts (gd_all (in_V kw_1384 kw_1385 kw_1386 kw_182 kc_X7_shows)) rfl rfl rfl (by decide +kernel) ⟨h1, h2⟩
theorem cw_X9_X7_shows {R : Room} {s : State} {args : Array Value} {y0 : MethodName} {c0 : ByteArray} {n0 : Nat} {r0 : Option FieldType} (hts : ∀ w ∈ wsOf y0 c0 n0 r0, w.before args s = true) {fr : Nat} (h1 : fr + 1 ≤ R.frames) (h2 : 8 + (9 + 11) + 60 * fr ≤ R.locals) : CallW R s args RX9 RX7 87 yX7_shows cX7_shows 9 (some .boolean) (wsOf yX7_shows cX7_shows 9 (some .boolean)) ({ frames := fr, cells := 0, slots := 0, locals := 60 * fr } : Room) 0 0 3 := cwV 3 hts (gd_all (in_V kw_1685 kw_1385 kw_1386 kw_182 kc_X7_shows)) rfl rfl rfl (by decide +kernel) ⟨h1, h2⟩
set_option maxHeartbeats 4000000 in
set_option maxRecDepth 100000 in
theorem sc_X7_shows (l : Launch) (dC : Nat → ClassId) (dI : Nat → Nat → Nat) (cB cI cJ cZ cS cO : ClassId) (b : Nat) (K V : Nat → Nat) (fz : Value) (F : Nat) (cs : CS) (x0 : Nat) (x1 : Int32) (x2 : Int32) (x3 : Int64) (r9 : Int32) (hf : c_X7_shows F cs x0 x1 x2 x3 = some r9) : ocI l dC dI cB cI cJ cZ cS cO b K V fz yX7_shows (wsOf yX7_shows cX7_shows 9 (some .boolean)) (2) [.ref (b + x0), .int x1, .int x2, .long x3] cs cs r9 := by
  intro sz
  refine Met.ofW (cc := cX7_shows) (maxL := 9) (ret := (some .boolean)) (by decide) rfl ?_
  intro p e s m args below meth c s₁ B hml hv
  obtain ⟨rfl, hsz, hP, hK, hD0, hZ⟩ := hv
  have hx := B.exec
  have hb := B.bytes
  have hr := B.returns
  have hts := atoms_spec (ws := (wsOf yX7_shows cX7_shows 9 (some .boolean))) B.pre
  have hown : s.vm.findClass RX7 = some m.cls := findClass_of_methodNamed B.named
  have hlocks := B.notSynchronized
  subst hsz
  have hD := hD0.self (sz := s.heap.size)
  generalize hAe : va_A (cW cB cI cJ cZ cS cO b cs) s.heap.size = A at hD hZ ⊢
  have hA : ∀ q : Nat, s.heap.size ≤ q → A q := fun q h => by rw [← hAe]; exact Or.inr h
  have hS : va_S A s.heap s.heap [] := va_S.rf
  have hl := lv_entry ([.ref (b + x0), .int x1, .int x2, .long x3]) (n := 9) (Nat.le_of_ble_eq_true rfl)
  rw [lg_entry_eq]
  generalize (lg_sl ([.ref (b + x0), .int x1, .int x2, .long x3]) ++ List.replicate (9 - (lg_sl ([.ref (b + x0), .int x1, .int x2, .long x3])).length) Slot.unset).toArray = ls at hl ⊢
  have hl : lv_has ls 9 [(0, .ref (b + x0)), (1, .int x1), (2, .int x2), (3, .long x3)] := hl
  have B_79 : ∀ (y0 : Int32), c_X7_shows_b79 F cs y0 = some r9 → ∀ (H : Heap) (locs : List Loc) (ls : Array Slot), va_P (dC, dI) vwCl (cW cB cI cJ cZ cS cO b cs) H → va_D A (cW cB cI cJ cZ cS cO b cs) → va_S A s.heap H locs → lv_has ls 9 [] → W p l e (headSpec (wsOf yX7_shows cX7_shows 9 (some .boolean)) ({ frames := 2, cells := 0, slots := 0, locals := 60 * (2) } : Room)).room s m ([.ref (b + x0), .int x1, .int x2, .long x3] : List Value).toArray below meth c H locs 0 0 (MQ below (va_Qi (fun (x : Int32) (_ : Unit) => x = r9) (fun _ t_ => va_P (dC, dI) vwCl (cW cB cI cJ cZ cS cO b cs) t_.heap ∧ va_D A (cW cB cI cJ cZ cS cO b cs)) A) ([.ref (b + x0), .int x1, .int x2, .long x3] : List Value).toArray s 0 0 A) (F0 m 79 ls [.int y0]) := by
    intro y0 h H locs ls hP hD hS hl
    unfold c_X7_shows_b79 at h
    replace h := ob h; obtain ⟨w_1, hw_1, h⟩ := h
    have e2 := Option.some.inj h
    exact W.zret (v := y0) hx hb hr (nzN (ckZ_some hw_1)) (fun t_ ht hW => ⟨⟨y0, (), rfl, e2, by rw [ht]; exact hP, hD⟩, hS.F ht⟩) hS.2.2 dX7_shows_79
  have B_74 : c_X7_shows_b74 F cs = some r9 → ∀ (H : Heap) (locs : List Loc) (ls : Array Slot), va_P (dC, dI) vwCl (cW cB cI cJ cZ cS cO b cs) H → va_D A (cW cB cI cJ cZ cS cO b cs) → va_S A s.heap H locs → lv_has ls 9 [] → W p l e (headSpec (wsOf yX7_shows cX7_shows 9 (some .boolean)) ({ frames := 2, cells := 0, slots := 0, locals := 60 * (2) } : Room)).room s m ([.ref (b + x0), .int x1, .int x2, .long x3] : List Value).toArray below meth c H locs 0 0 (MQ below (va_Qi (fun (x : Int32) (_ : Unit) => x = r9) (fun _ t_ => va_P (dC, dI) vwCl (cW cB cI cJ cZ cS cO b cs) t_.heap ∧ va_D A (cW cB cI cJ cZ cS cO b cs)) A) ([.ref (b + x0), .int x1, .int x2, .long x3] : List Value).toArray s 0 0 A) (F0 m 74 ls []) := by
    intro  h H locs ls hP hD hS hl
    unfold c_X7_shows_b74 at h
    refine lv_iconst (v := 1) hx hb dX7_shows_74 (by decide) ?_
    refine lv_goto (tgt := 79) hx hb dX7_shows_75 (by decide) ?_
    exact B_79 1 h _ _ _ hP hD hS (lv_sub hl [] rfl)
  have B_36 : ∀ (u0 : Nat) (u1 : Int32) (u2 : Int32) (u3 : Int64) (y0 : Int64), c_X7_shows_b36 F cs u0 u1 u2 u3 y0 = some r9 → ∀ (H : Heap) (locs : List Loc) (ls : Array Slot), va_P (dC, dI) vwCl (cW cB cI cJ cZ cS cO b cs) H → va_D A (cW cB cI cJ cZ cS cO b cs) → va_S A s.heap H locs → lv_has ls 9 [(0, .ref (b + u0)), (1, .int u1), (2, .int u2), (3, .long u3)] → W p l e (headSpec (wsOf yX7_shows cX7_shows 9 (some .boolean)) ({ frames := 2, cells := 0, slots := 0, locals := 60 * (2) } : Room)).room s m ([.ref (b + x0), .int x1, .int x2, .long x3] : List Value).toArray below meth c H locs 0 0 (MQ below (va_Qi (fun (x : Int32) (_ : Unit) => x = r9) (fun _ t_ => va_P (dC, dI) vwCl (cW cB cI cJ cZ cS cO b cs) t_.heap ∧ va_D A (cW cB cI cJ cZ cS cO b cs)) A) ([.ref (b + x0), .int x1, .int x2, .long x3] : List Value).toArray s 0 0 A) (F0 m 36 ls [.long y0]) := by
    intro u0 u1 u2 u3 y0 h H locs ls hP hD hS hl
    unfold c_X7_shows_b36 at h
    refine lv_lstore (lv' := [(5, .long y0), (0, .ref (b + u0)), (1, .int u1), (2, .int u2), (3, .long u3)]) hx hb dX7_shows_36 hl (by decide) rfl (fun ls hl => ?_)
    refine lv_aload_n hx hb dX7_shows_38 rfl (lv_at hl 1 rfl) ?_
    replace h := ob h; obtain ⟨v_2, hv_2, h⟩ := h
    refine fg_X7_23 hx hb hts hown hK hP hv_2 dX7_shows_39 ?_
    refine lv_iload_n hx hb dX7_shows_42 rfl (lv_at hl 2 rfl) ?_
    refine lv_bipush (v := 8) hx hb dX7_shows_43 (by decide) ?_
    refine lv_imul hx hb dX7_shows_45 ?_
    refine lv_iload_n hx hb dX7_shows_46 rfl (lv_at hl 3 rfl) ?_
    refine lv_iadd hx hb dX7_shows_47 ?_
    refine lv_iconst (v := 5) hx hb dX7_shows_48 (by decide) ?_
    refine lv_imul hx hb dX7_shows_49 ?_
    refine lv_aload_n hx hb dX7_shows_50 rfl (lv_at hl 1 rfl) ?_
    replace h := ob h; obtain ⟨v_3, hv_3, h⟩ := h
    refine fg_X7_19 hx hb hts hown hK hP hv_3 dX7_shows_51 ?_
    refine lv_iload_n hx hb dX7_shows_54 rfl (lv_at hl 2 rfl) ?_
    replace h := ob h; obtain ⟨v_4, hv_4, h⟩ := h
    refine ald0 hx hb hK hP rfl hv_4 dX7_shows_55 ?_
    refine lv_iadd hx hb dX7_shows_56 ?_
    replace h := ob h; obtain ⟨v_5, hv_5, h⟩ := h
    refine ald2 hx hb hK hP rfl hv_5 dX7_shows_57 ?_
    refine lv_lstore (lv' := [(7, .long v_5), (5, .long y0), (0, .ref (b + u0)), (1, .int u1), (2, .int u2), (3, .long u3)]) hx hb dX7_shows_58 hl (by decide) rfl (fun ls hl => ?_)
    refine lv_lload_n hx hb dX7_shows_60 rfl (lv_at hl 5 rfl) ?_
    refine lv_lconst (v := 0) hx hb dX7_shows_61 (by decide) ?_
    refine W.lcmp hx hb dX7_shows_62 ?_
    refine lv_if_lt (tgt := 74) hx hb dX7_shows_63 (by decide) (fun c_6 => ?_) (fun c_6 => ?_)
    · skip
      have c_6 : u3 < 0 := (lg_cmp_lt _ _).mp c_6
      replace h := (if_pos c_6).symm.trans h
      exact B_74  h _ _ _ hP hD hS (lv_sub hl [] rfl)
    · skip
      have c_6 : ¬ (u3 < 0) := fun h9 => c_6 ((lg_cmp_lt _ _).mpr h9)
      replace h := (if_neg c_6).symm.trans h
      refine lv_lload hx hb dX7_shows_66 (lv_at hl 0 rfl) ?_
      refine lv_lload hx hb dX7_shows_68 (lv_at hl 1 rfl) ?_
      refine W.lcmp hx hb dX7_shows_70 ?_
      refine lv_if_lt (tgt := 78) hx hb dX7_shows_71 (by decide) (fun c_7 => ?_) (fun c_7 => ?_)
      · skip
        have c_7 : v_5 < y0 := (lg_cmp_lt _ _).mp c_7
        replace h := (if_pos c_7).symm.trans h
        refine lv_iconst (v := 0) hx hb dX7_shows_78 (by decide) ?_
        exact B_79 0 h _ _ _ hP hD hS (lv_sub hl [] rfl)
      · skip
        have c_7 : ¬ (v_5 < y0) := fun h9 => c_7 ((lg_cmp_lt _ _).mpr h9)
        replace h := (if_neg c_7).symm.trans h
        exact B_74  h _ _ _ hP hD hS (lv_sub hl [] rfl)
  have h := hf
  unfold c_X7_shows at h
  refine lv_aload_n hx hb dX7_shows_0 rfl (lv_at hl 0 rfl) ?_
  refine lv_iload_n hx hb dX7_shows_1 rfl (lv_at hl 1 rfl) ?_
  refine lv_iload_n hx hb dX7_shows_2 rfl (lv_at hl 2 rfl) ?_
  replace h := ob h; obtain ⟨w_9, hw_9, h⟩ := h
  replace h := ob h; obtain ⟨v_8, hv_8, h⟩ := h
  refine ccI (As := [.int x1, .int x2]) hx hb hml hts hown hK hP hD hS hA hZ (X := 8) (by decide) rfl (ckE_some hw_9) (sc_X7_holds l dC dI cB cI cJ cZ cS cO b K V fz F cs x0 x1 x2 v_8 hv_8) (cw_X7_X7_holds hts (fr := 1) (Nat.le_of_ble_eq_true rfl) (Nat.le_of_ble_eq_true rfl)) rfl hl.1 (Nat.le_of_ble_eq_true rfl) ⟨Nat.zero_le _, Nat.zero_le _⟩ dX7_shows_3 (fun H locs hP hD hS => ?_)
  refine lv_if_ne (tgt := 11) hx hb dX7_shows_6 (by decide) (fun c_10 => ?_) (fun c_10 => ?_)
  · skip
    replace h := (if_neg c_10).symm.trans h
    refine lv_aload_n hx hb dX7_shows_11 rfl (lv_at hl 0 rfl) ?_
    replace h := ob h; obtain ⟨v_11, hv_11, h⟩ := h
    refine fg_X7_13 hx hb hts hown hK hP hv_11 dX7_shows_12 ?_
    refine lv_ldc2 hx hb hown (hts _ (List.mem_cons_of_mem _ kw_222)) dX7_shows_15 ?_
    refine lv_lload_n hx hb dX7_shows_18 rfl (lv_at hl 3 rfl) ?_
    refine lv_ladd hx hb dX7_shows_19 ?_
    refine W.lcmp hx hb dX7_shows_20 ?_
    refine lv_if_ge (tgt := 30) hx hb dX7_shows_21 (by decide) (fun c_12 => ?_) (fun c_12 => ?_)
    · skip
      have c_12 : ((-9223372036854775808) + x3) ≤ v_11 := (lg_cmp_ge _ _).mp c_12
      replace h := (if_pos c_12).symm.trans h
      refine lv_aload_n hx hb dX7_shows_30 rfl (lv_at hl 0 rfl) ?_
      replace h := ob h; obtain ⟨v_13, hv_13, h⟩ := h
      refine fg_X7_13 hx hb hts hown hK hP hv_13 dX7_shows_31 ?_
      refine lv_lload_n hx hb dX7_shows_34 rfl (lv_at hl 3 rfl) ?_
      refine lv_lsub hx hb dX7_shows_35 ?_
      exact B_36 x0 x1 x2 x3 (v_13 - x3) h _ _ _ hP hD hS (lv_sub hl [0, 1, 2, 3] rfl)
    · skip
      have c_12 : ¬ (((-9223372036854775808) + x3) ≤ v_11) := fun h9 => c_12 ((lg_cmp_ge _ _).mpr h9)
      replace h := (if_neg c_12).symm.trans h
      refine lv_ldc2 hx hb hown (hts _ (List.mem_cons_of_mem _ kw_222)) dX7_shows_24 ?_
      refine lv_goto (tgt := 36) hx hb dX7_shows_27 (by decide) ?_
      exact B_36 x0 x1 x2 x3 (-9223372036854775808) h _ _ _ hP hD hS (lv_sub hl [0, 1, 2, 3] rfl)
  · skip
    replace h := (if_pos c_10).symm.trans h
    refine lv_iconst (v := 0) hx hb dX7_shows_9 (by decide) ?_
    have e2 := Option.some.inj h
    exact W.zret (v := 0) hx hb hr (nzN (Or.inl rfl)) (fun t_ ht hW => ⟨⟨0, (), rfl, e2, by rw [ht]; exact hP, hD⟩, hS.F ht⟩) hS.2.2 dX7_shows_10
theorem dX10_byteAt_0 : decode cX10_byteAt 0 = .ok (.iload_n 1, 1) := by decide +kernel
theorem dX10_byteAt_1 : decode cX10_byteAt 1 = .ok (.ifCond .lt 29, 3) := by decide +kernel
theorem dX10_byteAt_4 : decode cX10_byteAt 4 = .ok (.iload_n 1, 1) := by decide +kernel
theorem dX10_byteAt_5 : decode cX10_byteAt 5 = .ok (.aload_n 0, 1) := by decide +kernel
theorem dX10_byteAt_6 : decode cX10_byteAt 6 = .ok (.getfield 53, 3) := by decide +kernel
theorem dX10_byteAt_9 : decode cX10_byteAt 9 = .ok (.if_icmp .ge 21, 3) := by decide +kernel
theorem dX10_byteAt_12 : decode cX10_byteAt 12 = .ok (.iload_n 1, 1) := by decide +kernel
theorem dX10_byteAt_13 : decode cX10_byteAt 13 = .ok (.aload_n 0, 1) := by decide +kernel
theorem dX10_byteAt_14 : decode cX10_byteAt 14 = .ok (.getfield 22, 3) := by decide +kernel
theorem dX10_byteAt_17 : decode cX10_byteAt 17 = .ok (.arraylength, 1) := by decide +kernel
theorem dX10_byteAt_18 : decode cX10_byteAt 18 = .ok (.if_icmp .ge 12, 3) := by decide +kernel
theorem dX10_byteAt_21 : decode cX10_byteAt 21 = .ok (.aload_n 0, 1) := by decide +kernel
theorem dX10_byteAt_22 : decode cX10_byteAt 22 = .ok (.getfield 22, 3) := by decide +kernel
theorem dX10_byteAt_25 : decode cX10_byteAt 25 = .ok (.iload_n 1, 1) := by decide +kernel
theorem dX10_byteAt_26 : decode cX10_byteAt 26 = .ok (.baload, 1) := by decide +kernel
theorem dX10_byteAt_27 : decode cX10_byteAt 27 = .ok (.goto 4, 3) := by decide +kernel
theorem dX10_byteAt_30 : decode cX10_byteAt 30 = .ok (.iconst (-1), 1) := by decide +kernel
theorem dX10_byteAt_31 : decode cX10_byteAt 31 = .ok (.ireturn, 1) := by decide +kernel
def c_X10_byteAt_b31 (F : Nat) (cs : CS) (y0 : Int32) : Option Int32 := some y0
def c_X10_byteAt_b30 (F : Nat) (cs : CS) : Option Int32 := c_X10_byteAt_b31 F cs (-1)
def c_X10_byteAt (F : Nat) (cs : CS) (x0 : Nat) (x1 : Int32) : Option Int32 := if x1 < 0 then (c_X10_byteAt_b30 F cs ) else (Option.bind (gI cs 11 356 x0) fun v_2 => if v_2 ≤ x1 then (c_X10_byteAt_b30 F cs ) else (Option.bind (gBy cs x0) fun z_4 => Option.bind (lnA cs 384 z_4.1 z_4.2) fun v_5 => if v_5 ≤ x1 then (c_X10_byteAt_b30 F cs ) else (Option.bind (gBy cs x0) fun z_7 => Option.bind (rA cs 384 z_7.1 z_7.2 x1) fun v_8 => c_X10_byteAt_b31 F cs v_8)))
theorem cw_X10_X10_byteAt {R : Room} {s : State} {args : Array Value} {y0 : MethodName} {c0 : ByteArray} {n0 : Nat} {r0 : Option FieldType} (hts : ∀ w ∈ wsOf y0 c0 n0 r0, w.before args s = true) {fr : Nat} (h1 : fr + 1 ≤ R.frames) (h2 : 8 + (2 + 11) + 60 * fr ≤ R.locals) : CallW R s args RX10 RX10 67 yX10_byteAt cX10_byteAt 2 (some .int) (wsOf yX10_byteAt cX10_byteAt 2 (some .int)) ({ frames := fr, cells := 0, slots := 0, locals := 60 * fr } : Room) 0 0 1 := cwV 1 hts (gd_all (in_V kw_512 kw_514 kw_2 kw_183 kc_X10_byteAt)) rfl rfl rfl (by decide +kernel) ⟨h1, h2⟩
set_option maxHeartbeats 4000000 in
set_option maxRecDepth 100000 in
theorem sc_X10_byteAt (l : Launch) (dC : Nat → ClassId) (dI : Nat → Nat → Nat) (cB cI cJ cZ cS cO : ClassId) (b : Nat) (K V : Nat → Nat) (fz : Value) (F : Nat) (cs : CS) (x0 : Nat) (x1 : Int32) (r9 : Int32) (hf : c_X10_byteAt F cs x0 x1 = some r9) : ocI l dC dI cB cI cJ cZ cS cO b K V fz yX10_byteAt (wsOf yX10_byteAt cX10_byteAt 2 (some .int)) (0) [.ref (b + x0), .int x1] cs cs r9 := by
  intro sz
  refine Met.ofW (cc := cX10_byteAt) (maxL := 2) (ret := (some .int)) (by decide) rfl ?_
  intro p e s m args below meth c s₁ B hml hv
  obtain ⟨rfl, hsz, hP, hK, hD0, hZ⟩ := hv
  have hx := B.exec
  have hb := B.bytes
  have hr := B.returns
  have hts := atoms_spec (ws := (wsOf yX10_byteAt cX10_byteAt 2 (some .int))) B.pre
  have hown : s.vm.findClass RX10 = some m.cls := findClass_of_methodNamed B.named
  have hlocks := B.notSynchronized
  subst hsz
  have hD := hD0.self (sz := s.heap.size)
  generalize hAe : va_A (cW cB cI cJ cZ cS cO b cs) s.heap.size = A at hD hZ ⊢
  have hA : ∀ q : Nat, s.heap.size ≤ q → A q := fun q h => by rw [← hAe]; exact Or.inr h
  have hS : va_S A s.heap s.heap [] := va_S.rf
  have hl := lv_entry ([.ref (b + x0), .int x1]) (n := 2) (Nat.le_of_ble_eq_true rfl)
  rw [lg_entry_eq]
  generalize (lg_sl ([.ref (b + x0), .int x1]) ++ List.replicate (2 - (lg_sl ([.ref (b + x0), .int x1])).length) Slot.unset).toArray = ls at hl ⊢
  have hl : lv_has ls 2 [(0, .ref (b + x0)), (1, .int x1)] := hl
  have B_31 : ∀ (y0 : Int32), c_X10_byteAt_b31 F cs y0 = some r9 → ∀ (H : Heap) (locs : List Loc) (ls : Array Slot), va_P (dC, dI) vwCl (cW cB cI cJ cZ cS cO b cs) H → va_D A (cW cB cI cJ cZ cS cO b cs) → va_S A s.heap H locs → lv_has ls 2 [] → W p l e (headSpec (wsOf yX10_byteAt cX10_byteAt 2 (some .int)) ({ frames := 0, cells := 0, slots := 0, locals := 60 * (0) } : Room)).room s m ([.ref (b + x0), .int x1] : List Value).toArray below meth c H locs 0 0 (MQ below (va_Qi (fun (x : Int32) (_ : Unit) => x = r9) (fun _ t_ => va_P (dC, dI) vwCl (cW cB cI cJ cZ cS cO b cs) t_.heap ∧ va_D A (cW cB cI cJ cZ cS cO b cs)) A) ([.ref (b + x0), .int x1] : List Value).toArray s 0 0 A) (F0 m 31 ls [.int y0]) := by
    intro y0 h H locs ls hP hD hS hl
    unfold c_X10_byteAt_b31 at h
    have e2 := Option.some.inj h
    exact W.iret (v := y0) hx hb hr (fun t_ ht hW => ⟨⟨y0, (), rfl, e2, by rw [ht]; exact hP, hD⟩, hS.F ht⟩) hS.2.2 dX10_byteAt_31
  have B_30 : c_X10_byteAt_b30 F cs = some r9 → ∀ (H : Heap) (locs : List Loc) (ls : Array Slot), va_P (dC, dI) vwCl (cW cB cI cJ cZ cS cO b cs) H → va_D A (cW cB cI cJ cZ cS cO b cs) → va_S A s.heap H locs → lv_has ls 2 [] → W p l e (headSpec (wsOf yX10_byteAt cX10_byteAt 2 (some .int)) ({ frames := 0, cells := 0, slots := 0, locals := 60 * (0) } : Room)).room s m ([.ref (b + x0), .int x1] : List Value).toArray below meth c H locs 0 0 (MQ below (va_Qi (fun (x : Int32) (_ : Unit) => x = r9) (fun _ t_ => va_P (dC, dI) vwCl (cW cB cI cJ cZ cS cO b cs) t_.heap ∧ va_D A (cW cB cI cJ cZ cS cO b cs)) A) ([.ref (b + x0), .int x1] : List Value).toArray s 0 0 A) (F0 m 30 ls []) := by
    intro  h H locs ls hP hD hS hl
    unfold c_X10_byteAt_b30 at h
    refine lv_iconst (v := (-1)) hx hb dX10_byteAt_30 (by decide) ?_
    exact B_31 (-1) h _ _ _ hP hD hS (lv_sub hl [] rfl)
  have h := hf
  unfold c_X10_byteAt at h
  refine lv_iload_n hx hb dX10_byteAt_0 rfl (lv_at hl 1 rfl) ?_
  refine lv_if_lt (tgt := 30) hx hb dX10_byteAt_1 (by decide) (fun c_1 => ?_) (fun c_1 => ?_)
  · skip
    replace h := (if_pos c_1).symm.trans h
    exact B_30  h _ _ _ hP hD hS (lv_sub hl [] rfl)
  · skip
    replace h := (if_neg c_1).symm.trans h
    refine lv_iload_n hx hb dX10_byteAt_4 rfl (lv_at hl 1 rfl) ?_
    refine lv_aload_n hx hb dX10_byteAt_5 rfl (lv_at hl 0 rfl) ?_
    replace h := ob h; obtain ⟨v_2, hv_2, h⟩ := h
    refine fg_X10_53 hx hb hts hown hK hP hv_2 dX10_byteAt_6 ?_
    refine lv_icmp_ge (tgt := 30) hx hb dX10_byteAt_9 (by decide) (fun c_3 => ?_) (fun c_3 => ?_)
    · skip
      replace h := (if_pos c_3).symm.trans h
      exact B_30  h _ _ _ hP hD hS (lv_sub hl [] rfl)
    · skip
      replace h := (if_neg c_3).symm.trans h
      refine lv_iload_n hx hb dX10_byteAt_12 rfl (lv_at hl 1 rfl) ?_
      refine lv_aload_n hx hb dX10_byteAt_13 rfl (lv_at hl 0 rfl) ?_
      replace h := ob h; obtain ⟨z_4, hz_4, h⟩ := h
      obtain ⟨hv_4, hw_4⟩ := gBy_some hz_4
      refine fg_X10_22 hx hb hts hown hK hP hv_4 dX10_byteAt_14 ?_
      replace h := ob h; obtain ⟨v_5, hv_5, h⟩ := h
      refine alen1 hx hb hK hP rfl hv_5 dX10_byteAt_17 ?_
      refine lv_icmp_ge (tgt := 30) hx hb dX10_byteAt_18 (by decide) (fun c_6 => ?_) (fun c_6 => ?_)
      · skip
        replace h := (if_pos c_6).symm.trans h
        exact B_30  h _ _ _ hP hD hS (lv_sub hl [] rfl)
      · skip
        replace h := (if_neg c_6).symm.trans h
        refine lv_aload_n hx hb dX10_byteAt_21 rfl (lv_at hl 0 rfl) ?_
        replace h := ob h; obtain ⟨z_7, hz_7, h⟩ := h
        obtain ⟨hv_7, hw_7⟩ := gBy_some hz_7
        refine fg_X10_22 hx hb hts hown hK hP hv_7 dX10_byteAt_22 ?_
        refine lv_iload_n hx hb dX10_byteAt_25 rfl (lv_at hl 1 rfl) ?_
        replace h := ob h; obtain ⟨v_8, hv_8, h⟩ := h
        refine ald1 hx hb hK hP rfl hv_8 dX10_byteAt_26 ?_
        refine lv_goto (tgt := 31) hx hb dX10_byteAt_27 (by decide) ?_
        exact B_31 v_8 h _ _ _ hP hD hS (lv_sub hl [] rfl)
theorem dX10_isBlankByte_0 : decode cX10_isBlankByte 0 = .ok (.iload_n 0, 1) := by decide +kernel
theorem dX10_isBlankByte_1 : decode cX10_isBlankByte 1 = .ok (.bipush 32, 2) := by decide +kernel
theorem dX10_isBlankByte_3 : decode cX10_isBlankByte 3 = .ok (.if_icmp .eq 21, 3) := by decide +kernel
theorem dX10_isBlankByte_6 : decode cX10_isBlankByte 6 = .ok (.iload_n 0, 1) := by decide +kernel
theorem dX10_isBlankByte_7 : decode cX10_isBlankByte 7 = .ok (.bipush 9, 2) := by decide +kernel
theorem dX10_isBlankByte_9 : decode cX10_isBlankByte 9 = .ok (.if_icmp .eq 15, 3) := by decide +kernel
theorem dX10_isBlankByte_12 : decode cX10_isBlankByte 12 = .ok (.iload_n 0, 1) := by decide +kernel
theorem dX10_isBlankByte_13 : decode cX10_isBlankByte 13 = .ok (.bipush 13, 2) := by decide +kernel
theorem dX10_isBlankByte_15 : decode cX10_isBlankByte 15 = .ok (.if_icmp .eq 9, 3) := by decide +kernel
theorem dX10_isBlankByte_18 : decode cX10_isBlankByte 18 = .ok (.iload_n 0, 1) := by decide +kernel
theorem dX10_isBlankByte_19 : decode cX10_isBlankByte 19 = .ok (.bipush 10, 2) := by decide +kernel
theorem dX10_isBlankByte_21 : decode cX10_isBlankByte 21 = .ok (.if_icmp .ne 7, 3) := by decide +kernel
theorem dX10_isBlankByte_24 : decode cX10_isBlankByte 24 = .ok (.iconst 1, 1) := by decide +kernel
theorem dX10_isBlankByte_25 : decode cX10_isBlankByte 25 = .ok (.goto 4, 3) := by decide +kernel
theorem dX10_isBlankByte_28 : decode cX10_isBlankByte 28 = .ok (.iconst 0, 1) := by decide +kernel
theorem dX10_isBlankByte_29 : decode cX10_isBlankByte 29 = .ok (.ireturn, 1) := by decide +kernel
def c_X10_isBlankByte_b29 (F : Nat) (cs : CS) (y0 : Int32) : Option Int32 := Option.bind (ckZ y0) fun _ => some y0
def c_X10_isBlankByte_b24 (F : Nat) (cs : CS) : Option Int32 := c_X10_isBlankByte_b29 F cs 1
def c_X10_isBlankByte (F : Nat) (cs : CS) (x0 : Int32) : Option Int32 := if x0 = 32 then (c_X10_isBlankByte_b24 F cs ) else (if x0 = 9 then (c_X10_isBlankByte_b24 F cs ) else (if x0 = 13 then (c_X10_isBlankByte_b24 F cs ) else (if x0 = 10 then (c_X10_isBlankByte_b24 F cs ) else (c_X10_isBlankByte_b29 F cs 0))))
theorem cw_X10_X10_isBlankByte {R : Room} {s : State} {args : Array Value} {y0 : MethodName} {c0 : ByteArray} {n0 : Nat} {r0 : Option FieldType} (hts : ∀ w ∈ wsOf y0 c0 n0 r0, w.before args s = true) {fr : Nat} (h1 : fr + 1 ≤ R.frames) (h2 : 8 + (1 + 11) + 60 * fr ≤ R.locals) : CallB R s args RX10 86 yX10_isBlankByte cX10_isBlankByte 1 (some .boolean) (wsOf yX10_isBlankByte cX10_isBlankByte 1 (some .boolean)) ({ frames := fr, cells := 0, slots := 0, locals := 60 * fr } : Room) 0 0 1 ∧ (Cond.static yX10_isBlankByte).before args s = true := ⟨callB_of 1 hts (gd_all (in_I kc_X10_isBlankByte)) rfl rfl rfl (hts _ (List.mem_cons_of_mem _ kw_183)) (hts _ (List.mem_cons_of_mem _ kw_516)) (by decide +kernel) ⟨h1, h2⟩, hts _ (List.mem_cons_of_mem _ kw_517)⟩
set_option maxHeartbeats 4000000 in
set_option maxRecDepth 100000 in
theorem sc_X10_isBlankByte (l : Launch) (dC : Nat → ClassId) (dI : Nat → Nat → Nat) (cB cI cJ cZ cS cO : ClassId) (b : Nat) (K V : Nat → Nat) (fz : Value) (F : Nat) (cs : CS) (x0 : Int32) (r9 : Int32) (hf : c_X10_isBlankByte F cs x0 = some r9) : ocI l dC dI cB cI cJ cZ cS cO b K V fz yX10_isBlankByte (wsOf yX10_isBlankByte cX10_isBlankByte 1 (some .boolean)) (0) [.int x0] cs cs r9 := by
  intro sz
  refine Met.ofW (cc := cX10_isBlankByte) (maxL := 1) (ret := (some .boolean)) (by decide) rfl ?_
  intro p e s m args below meth c s₁ B hml hv
  obtain ⟨rfl, hsz, hP, hK, hD0, hZ⟩ := hv
  have hx := B.exec
  have hb := B.bytes
  have hr := B.returns
  have hts := atoms_spec (ws := (wsOf yX10_isBlankByte cX10_isBlankByte 1 (some .boolean))) B.pre
  have hown : s.vm.findClass RX10 = some m.cls := findClass_of_methodNamed B.named
  have hlocks := B.notSynchronized
  subst hsz
  have hD := hD0.self (sz := s.heap.size)
  generalize hAe : va_A (cW cB cI cJ cZ cS cO b cs) s.heap.size = A at hD hZ ⊢
  have hA : ∀ q : Nat, s.heap.size ≤ q → A q := fun q h => by rw [← hAe]; exact Or.inr h
  have hS : va_S A s.heap s.heap [] := va_S.rf
  have hl := lv_entry ([.int x0]) (n := 1) (Nat.le_of_ble_eq_true rfl)
  rw [lg_entry_eq]
  generalize (lg_sl ([.int x0]) ++ List.replicate (1 - (lg_sl ([.int x0])).length) Slot.unset).toArray = ls at hl ⊢
  have hl : lv_has ls 1 [(0, .int x0)] := hl
  have B_29 : ∀ (y0 : Int32), c_X10_isBlankByte_b29 F cs y0 = some r9 → ∀ (H : Heap) (locs : List Loc) (ls : Array Slot), va_P (dC, dI) vwCl (cW cB cI cJ cZ cS cO b cs) H → va_D A (cW cB cI cJ cZ cS cO b cs) → va_S A s.heap H locs → lv_has ls 1 [] → W p l e (headSpec (wsOf yX10_isBlankByte cX10_isBlankByte 1 (some .boolean)) ({ frames := 0, cells := 0, slots := 0, locals := 60 * (0) } : Room)).room s m ([.int x0] : List Value).toArray below meth c H locs 0 0 (MQ below (va_Qi (fun (x : Int32) (_ : Unit) => x = r9) (fun _ t_ => va_P (dC, dI) vwCl (cW cB cI cJ cZ cS cO b cs) t_.heap ∧ va_D A (cW cB cI cJ cZ cS cO b cs)) A) ([.int x0] : List Value).toArray s 0 0 A) (F0 m 29 ls [.int y0]) := by
    intro y0 h H locs ls hP hD hS hl
    unfold c_X10_isBlankByte_b29 at h
    replace h := ob h; obtain ⟨w_1, hw_1, h⟩ := h
    have e2 := Option.some.inj h
    exact W.zret (v := y0) hx hb hr (nzN (ckZ_some hw_1)) (fun t_ ht hW => ⟨⟨y0, (), rfl, e2, by rw [ht]; exact hP, hD⟩, hS.F ht⟩) hS.2.2 dX10_isBlankByte_29
  have B_24 : c_X10_isBlankByte_b24 F cs = some r9 → ∀ (H : Heap) (locs : List Loc) (ls : Array Slot), va_P (dC, dI) vwCl (cW cB cI cJ cZ cS cO b cs) H → va_D A (cW cB cI cJ cZ cS cO b cs) → va_S A s.heap H locs → lv_has ls 1 [] → W p l e (headSpec (wsOf yX10_isBlankByte cX10_isBlankByte 1 (some .boolean)) ({ frames := 0, cells := 0, slots := 0, locals := 60 * (0) } : Room)).room s m ([.int x0] : List Value).toArray below meth c H locs 0 0 (MQ below (va_Qi (fun (x : Int32) (_ : Unit) => x = r9) (fun _ t_ => va_P (dC, dI) vwCl (cW cB cI cJ cZ cS cO b cs) t_.heap ∧ va_D A (cW cB cI cJ cZ cS cO b cs)) A) ([.int x0] : List Value).toArray s 0 0 A) (F0 m 24 ls []) := by
    intro  h H locs ls hP hD hS hl
    unfold c_X10_isBlankByte_b24 at h
    refine lv_iconst (v := 1) hx hb dX10_isBlankByte_24 (by decide) ?_
    refine lv_goto (tgt := 29) hx hb dX10_isBlankByte_25 (by decide) ?_
    exact B_29 1 h _ _ _ hP hD hS (lv_sub hl [] rfl)
  have h := hf
  unfold c_X10_isBlankByte at h
  refine lv_iload_n hx hb dX10_isBlankByte_0 rfl (lv_at hl 0 rfl) ?_
  refine lv_bipush (v := 32) hx hb dX10_isBlankByte_1 (by decide) ?_
  refine lv_icmp_eq (tgt := 24) hx hb dX10_isBlankByte_3 (by decide) (fun c_2 => ?_) (fun c_2 => ?_)
  · skip
    replace h := (if_pos c_2).symm.trans h
    exact B_24  h _ _ _ hP hD hS (lv_sub hl [] rfl)
  · skip
    replace h := (if_neg c_2).symm.trans h
    refine lv_iload_n hx hb dX10_isBlankByte_6 rfl (lv_at hl 0 rfl) ?_
    refine lv_bipush (v := 9) hx hb dX10_isBlankByte_7 (by decide) ?_
    refine lv_icmp_eq (tgt := 24) hx hb dX10_isBlankByte_9 (by decide) (fun c_3 => ?_) (fun c_3 => ?_)
    · skip
      replace h := (if_pos c_3).symm.trans h
      exact B_24  h _ _ _ hP hD hS (lv_sub hl [] rfl)
    · skip
      replace h := (if_neg c_3).symm.trans h
      refine lv_iload_n hx hb dX10_isBlankByte_12 rfl (lv_at hl 0 rfl) ?_
      refine lv_bipush (v := 13) hx hb dX10_isBlankByte_13 (by decide) ?_
      refine lv_icmp_eq (tgt := 24) hx hb dX10_isBlankByte_15 (by decide) (fun c_4 => ?_) (fun c_4 => ?_)
      · skip
        replace h := (if_pos c_4).symm.trans h
        exact B_24  h _ _ _ hP hD hS (lv_sub hl [] rfl)
      · skip
        replace h := (if_neg c_4).symm.trans h
        refine lv_iload_n hx hb dX10_isBlankByte_18 rfl (lv_at hl 0 rfl) ?_
        refine lv_bipush (v := 10) hx hb dX10_isBlankByte_19 (by decide) ?_
        refine lv_icmp_ne (tgt := 28) hx hb dX10_isBlankByte_21 (by decide) (fun c_5 => ?_) (fun c_5 => ?_)
        · skip
          replace h := (if_neg c_5).symm.trans h
          refine lv_iconst (v := 0) hx hb dX10_isBlankByte_28 (by decide) ?_
          exact B_29 0 h _ _ _ hP hD hS (lv_sub hl [] rfl)
        · skip
          replace h := (if_pos c_5).symm.trans h
          exact B_24  h _ _ _ hP hD hS (lv_sub hl [] rfl)
theorem dX10_skipBlanks_0 : decode cX10_skipBlanks 0 = .ok (.aload_n 0, 1) := by decide +kernel
theorem dX10_skipBlanks_1 : decode cX10_skipBlanks 1 = .ok (.getfield 57, 3) := by decide +kernel
theorem dX10_skipBlanks_4 : decode cX10_skipBlanks 4 = .ok (.aload_n 0, 1) := by decide +kernel
theorem dX10_skipBlanks_5 : decode cX10_skipBlanks 5 = .ok (.getfield 53, 3) := by decide +kernel
theorem dX10_skipBlanks_8 : decode cX10_skipBlanks 8 = .ok (.if_icmp .ge 30, 3) := by decide +kernel
theorem dX10_skipBlanks_11 : decode cX10_skipBlanks 11 = .ok (.aload_n 0, 1) := by decide +kernel
theorem dX10_skipBlanks_12 : decode cX10_skipBlanks 12 = .ok (.aload_n 0, 1) := by decide +kernel
theorem dX10_skipBlanks_13 : decode cX10_skipBlanks 13 = .ok (.getfield 57, 3) := by decide +kernel
theorem dX10_skipBlanks_16 : decode cX10_skipBlanks 16 = .ok (.invokevirtual 67, 3) := by decide +kernel
theorem dX10_skipBlanks_19 : decode cX10_skipBlanks 19 = .ok (.invokestatic 86, 3) := by decide +kernel
theorem dX10_skipBlanks_22 : decode cX10_skipBlanks 22 = .ok (.ifCond .eq 16, 3) := by decide +kernel
theorem dX10_skipBlanks_25 : decode cX10_skipBlanks 25 = .ok (.aload_n 0, 1) := by decide +kernel
theorem dX10_skipBlanks_26 : decode cX10_skipBlanks 26 = .ok (.dup, 1) := by decide +kernel
theorem dX10_skipBlanks_27 : decode cX10_skipBlanks 27 = .ok (.getfield 57, 3) := by decide +kernel
theorem dX10_skipBlanks_30 : decode cX10_skipBlanks 30 = .ok (.iconst 1, 1) := by decide +kernel
theorem dX10_skipBlanks_31 : decode cX10_skipBlanks 31 = .ok (.iadd, 1) := by decide +kernel
theorem dX10_skipBlanks_32 : decode cX10_skipBlanks 32 = .ok (.putfield 57, 3) := by decide +kernel
theorem dX10_skipBlanks_35 : decode cX10_skipBlanks 35 = .ok (.goto (-35), 3) := by decide +kernel
theorem dX10_skipBlanks_38 : decode cX10_skipBlanks 38 = .ok (.return_, 1) := by decide +kernel
def c_X10_skipBlanks_b38 (F : Nat) (cs1 : CS) : Option CS := some cs1
def c_X10_skipBlanks_L0 (F : Nat) : Nat → CS → Nat → Option CS
  | 0, _, _ => none
  | lf_0 + 1, cs1, u0 => Option.bind (gI cs1 11 357 u0) fun v_1 => Option.bind (gI cs1 11 356 u0) fun v_2 => if v_2 ≤ v_1 then (c_X10_skipBlanks_b38 F cs1) else (Option.bind (gI cs1 11 357 u0) fun v_4 => Option.bind (ckE cs1 11 u0) fun _ => Option.bind (c_X10_byteAt F cs1 u0 v_4) fun v_5 => Option.bind (c_X10_isBlankByte F cs1 v_5) fun v_7 => if v_7 = 0 then (c_X10_skipBlanks_b38 F cs1) else (Option.bind (gI cs1 11 357 u0) fun v_9 => Option.bind (pI cs1 11 357 u0 (v_9 + 1)) fun cs_10 => (c_X10_skipBlanks_L0 F lf_0) cs_10 u0))
def c_X10_skipBlanks (F : Nat) (cs : CS) (x0 : Nat) : Option CS := c_X10_skipBlanks_L0 F F cs x0
theorem cw_X10_X10_skipBlanks {R : Room} {s : State} {args : Array Value} {y0 : MethodName} {c0 : ByteArray} {n0 : Nat} {r0 : Option FieldType} (hts : ∀ w ∈ wsOf y0 c0 n0 r0, w.before args s = true) {fr : Nat} (h1 : fr + 1 ≤ R.frames) (h2 : 8 + (1 + 11) + 60 * fr ≤ R.locals) : CallW R s args RX10 RX10 60 yX10_skipBlanks cX10_skipBlanks 1 none (wsOf yX10_skipBlanks cX10_skipBlanks 1 none) ({ frames := fr, cells := 0, slots := 0, locals := 60 * fr } : Room) 0 0 0 := cwV 0 hts (gd_all (in_V kw_508 kw_510 kw_1 kw_183 kc_X10_skipBlanks)) rfl rfl rfl (by decide +kernel) ⟨h1, h2⟩
set_option maxHeartbeats 4000000 in
set_option maxRecDepth 100000 in
theorem sc_X10_skipBlanks (l : Launch) (dC : Nat → ClassId) (dI : Nat → Nat → Nat) (cB cI cJ cZ cS cO : ClassId) (b : Nat) (K V : Nat → Nat) (fz : Value) (F : Nat) (cs : CS) (x0 : Nat) (cs9 : CS) (hf : c_X10_skipBlanks F cs x0 = some cs9) : ocV l dC dI cB cI cJ cZ cS cO b K V fz yX10_skipBlanks (wsOf yX10_skipBlanks cX10_skipBlanks 1 none) (1) [.ref (b + x0)] cs cs9 := by
  intro sz
  refine Met.ofW (cc := cX10_skipBlanks) (maxL := 1) (ret := none) (by decide) rfl ?_
  intro p e s m args below meth c s₁ B hml hv
  obtain ⟨rfl, hsz, hP, hK, hD0, hZ⟩ := hv
  have hx := B.exec
  have hb := B.bytes
  have hr := B.returns
  have hts := atoms_spec (ws := (wsOf yX10_skipBlanks cX10_skipBlanks 1 none)) B.pre
  have hown : s.vm.findClass RX10 = some m.cls := findClass_of_methodNamed B.named
  have hlocks := B.notSynchronized
  subst hsz
  have hD := hD0.self (sz := s.heap.size)
  generalize hAe : va_A (cW cB cI cJ cZ cS cO b cs) s.heap.size = A at hD hZ ⊢
  have hA : ∀ q : Nat, s.heap.size ≤ q → A q := fun q h => by rw [← hAe]; exact Or.inr h
  have hS : va_S A s.heap s.heap [] := va_S.rf
  have hl := lv_entry ([.ref (b + x0)]) (n := 1) (Nat.le_of_ble_eq_true rfl)
  rw [lg_entry_eq]
  generalize (lg_sl ([.ref (b + x0)]) ++ List.replicate (1 - (lg_sl ([.ref (b + x0)])).length) Slot.unset).toArray = ls at hl ⊢
  have hl : lv_has ls 1 [(0, .ref (b + x0))] := hl
  have B_38 : ∀ (cs1 : CS) , c_X10_skipBlanks_b38 F cs1 = some cs9 → ∀ (H : Heap) (locs : List Loc) (ls : Array Slot), va_P (dC, dI) vwCl (cW cB cI cJ cZ cS cO b cs1) H → va_D A (cW cB cI cJ cZ cS cO b cs1) → va_S A s.heap H locs → lv_has ls 1 [] → W p l e (headSpec (wsOf yX10_skipBlanks cX10_skipBlanks 1 none) ({ frames := 1, cells := 0, slots := 0, locals := 60 * (1) } : Room)).room s m ([.ref (b + x0)] : List Value).toArray below meth c H locs 0 0 (MQ below (va_Qv (fun (_ : Unit) => True) (fun _ t_ => va_P (dC, dI) vwCl (cW cB cI cJ cZ cS cO b cs9) t_.heap ∧ va_D A (cW cB cI cJ cZ cS cO b cs9)) A) ([.ref (b + x0)] : List Value).toArray s 0 0 A) (F0 m 38 ls []) := by
    intro cs1  h H locs ls hP hD hS hl
    unfold c_X10_skipBlanks_b38 at h
    have e1 := Option.some.inj h
    rw [e1] at hP hD
    exact W.vret hx hb hr (fun t_ ht hW => ⟨⟨(), rfl, trivial, by rw [ht]; exact hP, hD⟩, hS.F ht⟩) hS.2.2 dX10_skipBlanks_38
  have L_0 : ∀ (lf_0 : Nat), ∀ (cs1 : CS) (u0 : Nat), c_X10_skipBlanks_L0 F lf_0 cs1 u0 = some cs9 → ∀ (H : Heap) (locs : List Loc) (ls : Array Slot), va_P (dC, dI) vwCl (cW cB cI cJ cZ cS cO b cs1) H → va_D A (cW cB cI cJ cZ cS cO b cs1) → va_S A s.heap H locs → lv_has ls 1 [(0, .ref (b + u0))] → W p l e (headSpec (wsOf yX10_skipBlanks cX10_skipBlanks 1 none) ({ frames := 1, cells := 0, slots := 0, locals := 60 * (1) } : Room)).room s m ([.ref (b + x0)] : List Value).toArray below meth c H locs 0 0 (MQ below (va_Qv (fun (_ : Unit) => True) (fun _ t_ => va_P (dC, dI) vwCl (cW cB cI cJ cZ cS cO b cs9) t_.heap ∧ va_D A (cW cB cI cJ cZ cS cO b cs9)) A) ([.ref (b + x0)] : List Value).toArray s 0 0 A) (F0 m 0 ls []) := by
    intro lf_0
    induction lf_0 with
    | zero => intro cs1 u0 h; cases (show (none : Option CS) = _ from h)
    | succ lf_0 ih_0 =>
      intro cs1 u0 h H locs ls hP hD hS hl
      rw [c_X10_skipBlanks_L0] at h
      refine lv_aload_n hx hb dX10_skipBlanks_0 rfl (lv_at hl 0 rfl) ?_
      replace h := ob h; obtain ⟨v_1, hv_1, h⟩ := h
      refine fg_X10_57 hx hb hts hown hK hP hv_1 dX10_skipBlanks_1 ?_
      refine lv_aload_n hx hb dX10_skipBlanks_4 rfl (lv_at hl 0 rfl) ?_
      replace h := ob h; obtain ⟨v_2, hv_2, h⟩ := h
      refine fg_X10_53 hx hb hts hown hK hP hv_2 dX10_skipBlanks_5 ?_
      refine lv_icmp_ge (tgt := 38) hx hb dX10_skipBlanks_8 (by decide) (fun c_3 => ?_) (fun c_3 => ?_)
      · skip
        replace h := (if_pos c_3).symm.trans h
        exact B_38 cs1 h _ _ _ hP hD hS (lv_sub hl [] rfl)
      · skip
        replace h := (if_neg c_3).symm.trans h
        refine lv_aload_n hx hb dX10_skipBlanks_11 rfl (lv_at hl 0 rfl) ?_
        refine lv_aload_n hx hb dX10_skipBlanks_12 rfl (lv_at hl 0 rfl) ?_
        replace h := ob h; obtain ⟨v_4, hv_4, h⟩ := h
        refine fg_X10_57 hx hb hts hown hK hP hv_4 dX10_skipBlanks_13 ?_
        replace h := ob h; obtain ⟨w_6, hw_6, h⟩ := h
        replace h := ob h; obtain ⟨v_5, hv_5, h⟩ := h
        refine ccI (As := [.int v_4]) hx hb hml hts hown hK hP hD hS hA hZ (X := 11) (by decide) rfl (ckE_some hw_6) (sc_X10_byteAt l dC dI cB cI cJ cZ cS cO b K V fz F cs1 u0 v_4 v_5 hv_5) (cw_X10_X10_byteAt hts (fr := 0) (Nat.le_of_ble_eq_true rfl) (Nat.le_of_ble_eq_true rfl)) rfl hl.1 (Nat.le_of_ble_eq_true rfl) ⟨Nat.zero_le _, Nat.zero_le _⟩ dX10_skipBlanks_16 (fun H locs hP hD hS => ?_)
        replace h := ob h; obtain ⟨v_7, hv_7, h⟩ := h
        refine ccSI (As := [.int v_5]) hx hb hml hts hown hK hP hD hS hA hZ (sc_X10_isBlankByte l dC dI cB cI cJ cZ cS cO b K V fz F cs1 v_5 v_7 hv_7) (cw_X10_X10_isBlankByte hts (fr := 0) (Nat.le_of_ble_eq_true rfl) (Nat.le_of_ble_eq_true rfl)) rfl hl.1 (Nat.le_of_ble_eq_true rfl) ⟨Nat.zero_le _, Nat.zero_le _⟩ dX10_skipBlanks_19 (fun H locs hP hD hS => ?_)
        refine lv_if_eq (tgt := 38) hx hb dX10_skipBlanks_22 (by decide) (fun c_8 => ?_) (fun c_8 => ?_)
        · skip
          replace h := (if_pos c_8).symm.trans h
          exact B_38 cs1 h _ _ _ hP hD hS (lv_sub hl [] rfl)
        · skip
          replace h := (if_neg c_8).symm.trans h
          refine lv_aload_n hx hb dX10_skipBlanks_25 rfl (lv_at hl 0 rfl) ?_
          refine lv_dup hx hb dX10_skipBlanks_26 rfl ?_
          replace h := ob h; obtain ⟨v_9, hv_9, h⟩ := h
          refine fg_X10_57 hx hb hts hown hK hP hv_9 dX10_skipBlanks_27 ?_
          refine lv_iconst (v := 1) hx hb dX10_skipBlanks_30 (by decide) ?_
          refine lv_iadd hx hb dX10_skipBlanks_31 ?_
          replace h := ob h; obtain ⟨cs_10, hv_10, h⟩ := h
          refine fp_X10_57 hx hb hts hown hK hP hD hS hv_10 dX10_skipBlanks_32 (fun H locs hP hD hS => ?_)
          refine lv_goto (tgt := 0) hx hb dX10_skipBlanks_35 (by decide) ?_
          exact ih_0 cs_10 u0 h _ _ _ hP hD hS (lv_sub hl [0] rfl)
  have h := hf
  unfold c_X10_skipBlanks at h
  exact L_0 F cs x0 h _ _ _ hP hD hS (lv_sub hl [0] rfl)
theorem dX10_isLetter_0 : decode cX10_isLetter 0 = .ok (.iload_n 0, 1) := by decide +kernel
theorem dX10_isLetter_1 : decode cX10_isLetter 1 = .ok (.bipush 97, 2) := by decide +kernel
theorem dX10_isLetter_3 : decode cX10_isLetter 3 = .ok (.if_icmp .lt 13, 3) := by decide +kernel
theorem dX10_isLetter_6 : decode cX10_isLetter 6 = .ok (.iload_n 0, 1) := by decide +kernel
theorem dX10_isLetter_7 : decode cX10_isLetter 7 = .ok (.bipush 122, 2) := by decide +kernel
theorem dX10_isLetter_9 : decode cX10_isLetter 9 = .ok (.if_icmp .gt 7, 3) := by decide +kernel
theorem dX10_isLetter_12 : decode cX10_isLetter 12 = .ok (.iconst 1, 1) := by decide +kernel
theorem dX10_isLetter_13 : decode cX10_isLetter 13 = .ok (.goto 4, 3) := by decide +kernel
theorem dX10_isLetter_16 : decode cX10_isLetter 16 = .ok (.iconst 0, 1) := by decide +kernel
theorem dX10_isLetter_17 : decode cX10_isLetter 17 = .ok (.ireturn, 1) := by decide +kernel
def c_X10_isLetter_b17 (F : Nat) (cs : CS) (y0 : Int32) : Option Int32 := Option.bind (ckZ y0) fun _ => some y0
def c_X10_isLetter_b16 (F : Nat) (cs : CS) : Option Int32 := c_X10_isLetter_b17 F cs 0
def c_X10_isLetter (F : Nat) (cs : CS) (x0 : Int32) : Option Int32 := if x0 < 97 then (c_X10_isLetter_b16 F cs ) else (if 122 < x0 then (c_X10_isLetter_b16 F cs ) else (c_X10_isLetter_b17 F cs 1))
theorem cw_X10_X10_isLetter {R : Room} {s : State} {args : Array Value} {y0 : MethodName} {c0 : ByteArray} {n0 : Nat} {r0 : Option FieldType} (hts : ∀ w ∈ wsOf y0 c0 n0 r0, w.before args s = true) {fr : Nat} (h1 : fr + 1 ≤ R.frames) (h2 : 8 + (1 + 11) + 60 * fr ≤ R.locals) : CallB R s args RX10 70 yX10_isLetter cX10_isLetter 1 (some .boolean) (wsOf yX10_isLetter cX10_isLetter 1 (some .boolean)) ({ frames := fr, cells := 0, slots := 0, locals := 60 * fr } : Room) 0 0 1 ∧ (Cond.static yX10_isLetter).before args s = true := ⟨callB_of 1 hts (gd_all (in_I kc_X10_isLetter)) rfl rfl rfl (hts _ (List.mem_cons_of_mem _ kw_183)) (hts _ (List.mem_cons_of_mem _ kw_523)) (by decide +kernel) ⟨h1, h2⟩, hts _ (List.mem_cons_of_mem _ kw_524)⟩
set_option maxHeartbeats 4000000 in
set_option maxRecDepth 100000 in
theorem sc_X10_isLetter (l : Launch) (dC : Nat → ClassId) (dI : Nat → Nat → Nat) (cB cI cJ cZ cS cO : ClassId) (b : Nat) (K V : Nat → Nat) (fz : Value) (F : Nat) (cs : CS) (x0 : Int32) (r9 : Int32) (hf : c_X10_isLetter F cs x0 = some r9) : ocI l dC dI cB cI cJ cZ cS cO b K V fz yX10_isLetter (wsOf yX10_isLetter cX10_isLetter 1 (some .boolean)) (0) [.int x0] cs cs r9 := by
  intro sz
  refine Met.ofW (cc := cX10_isLetter) (maxL := 1) (ret := (some .boolean)) (by decide) rfl ?_
  intro p e s m args below meth c s₁ B hml hv
  obtain ⟨rfl, hsz, hP, hK, hD0, hZ⟩ := hv
  have hx := B.exec
  have hb := B.bytes
  have hr := B.returns
  have hts := atoms_spec (ws := (wsOf yX10_isLetter cX10_isLetter 1 (some .boolean))) B.pre
  have hown : s.vm.findClass RX10 = some m.cls := findClass_of_methodNamed B.named
  have hlocks := B.notSynchronized
  subst hsz
  have hD := hD0.self (sz := s.heap.size)
  generalize hAe : va_A (cW cB cI cJ cZ cS cO b cs) s.heap.size = A at hD hZ ⊢
  have hA : ∀ q : Nat, s.heap.size ≤ q → A q := fun q h => by rw [← hAe]; exact Or.inr h
  have hS : va_S A s.heap s.heap [] := va_S.rf
  have hl := lv_entry ([.int x0]) (n := 1) (Nat.le_of_ble_eq_true rfl)
  rw [lg_entry_eq]
  generalize (lg_sl ([.int x0]) ++ List.replicate (1 - (lg_sl ([.int x0])).length) Slot.unset).toArray = ls at hl ⊢
  have hl : lv_has ls 1 [(0, .int x0)] := hl
  have B_17 : ∀ (y0 : Int32), c_X10_isLetter_b17 F cs y0 = some r9 → ∀ (H : Heap) (locs : List Loc) (ls : Array Slot), va_P (dC, dI) vwCl (cW cB cI cJ cZ cS cO b cs) H → va_D A (cW cB cI cJ cZ cS cO b cs) → va_S A s.heap H locs → lv_has ls 1 [] → W p l e (headSpec (wsOf yX10_isLetter cX10_isLetter 1 (some .boolean)) ({ frames := 0, cells := 0, slots := 0, locals := 60 * (0) } : Room)).room s m ([.int x0] : List Value).toArray below meth c H locs 0 0 (MQ below (va_Qi (fun (x : Int32) (_ : Unit) => x = r9) (fun _ t_ => va_P (dC, dI) vwCl (cW cB cI cJ cZ cS cO b cs) t_.heap ∧ va_D A (cW cB cI cJ cZ cS cO b cs)) A) ([.int x0] : List Value).toArray s 0 0 A) (F0 m 17 ls [.int y0]) := by
    intro y0 h H locs ls hP hD hS hl
    unfold c_X10_isLetter_b17 at h
    replace h := ob h; obtain ⟨w_1, hw_1, h⟩ := h
    have e2 := Option.some.inj h
    exact W.zret (v := y0) hx hb hr (nzN (ckZ_some hw_1)) (fun t_ ht hW => ⟨⟨y0, (), rfl, e2, by rw [ht]; exact hP, hD⟩, hS.F ht⟩) hS.2.2 dX10_isLetter_17
  have B_16 : c_X10_isLetter_b16 F cs = some r9 → ∀ (H : Heap) (locs : List Loc) (ls : Array Slot), va_P (dC, dI) vwCl (cW cB cI cJ cZ cS cO b cs) H → va_D A (cW cB cI cJ cZ cS cO b cs) → va_S A s.heap H locs → lv_has ls 1 [] → W p l e (headSpec (wsOf yX10_isLetter cX10_isLetter 1 (some .boolean)) ({ frames := 0, cells := 0, slots := 0, locals := 60 * (0) } : Room)).room s m ([.int x0] : List Value).toArray below meth c H locs 0 0 (MQ below (va_Qi (fun (x : Int32) (_ : Unit) => x = r9) (fun _ t_ => va_P (dC, dI) vwCl (cW cB cI cJ cZ cS cO b cs) t_.heap ∧ va_D A (cW cB cI cJ cZ cS cO b cs)) A) ([.int x0] : List Value).toArray s 0 0 A) (F0 m 16 ls []) := by
    intro  h H locs ls hP hD hS hl
    unfold c_X10_isLetter_b16 at h
    refine lv_iconst (v := 0) hx hb dX10_isLetter_16 (by decide) ?_
    exact B_17 0 h _ _ _ hP hD hS (lv_sub hl [] rfl)
  have h := hf
  unfold c_X10_isLetter at h
  refine lv_iload_n hx hb dX10_isLetter_0 rfl (lv_at hl 0 rfl) ?_
  refine lv_bipush (v := 97) hx hb dX10_isLetter_1 (by decide) ?_
  refine lv_icmp_lt (tgt := 16) hx hb dX10_isLetter_3 (by decide) (fun c_2 => ?_) (fun c_2 => ?_)
  · skip
    replace h := (if_pos c_2).symm.trans h
    exact B_16  h _ _ _ hP hD hS (lv_sub hl [] rfl)
  · skip
    replace h := (if_neg c_2).symm.trans h
    refine lv_iload_n hx hb dX10_isLetter_6 rfl (lv_at hl 0 rfl) ?_
    refine lv_bipush (v := 122) hx hb dX10_isLetter_7 (by decide) ?_
    refine lv_icmp_gt (tgt := 16) hx hb dX10_isLetter_9 (by decide) (fun c_3 => ?_) (fun c_3 => ?_)
    · skip
      replace h := (if_pos c_3).symm.trans h
      exact B_16  h _ _ _ hP hD hS (lv_sub hl [] rfl)
    · skip
      replace h := (if_neg c_3).symm.trans h
      refine lv_iconst (v := 1) hx hb dX10_isLetter_12 (by decide) ?_
      refine lv_goto (tgt := 17) hx hb dX10_isLetter_13 (by decide) ?_
      exact B_17 1 h _ _ _ hP hD hS (lv_sub hl [] rfl)
theorem dX10_isDigit_0 : decode cX10_isDigit 0 = .ok (.iload_n 0, 1) := by decide +kernel
theorem dX10_isDigit_1 : decode cX10_isDigit 1 = .ok (.bipush 48, 2) := by decide +kernel
theorem dX10_isDigit_3 : decode cX10_isDigit 3 = .ok (.if_icmp .lt 13, 3) := by decide +kernel
theorem dX10_isDigit_6 : decode cX10_isDigit 6 = .ok (.iload_n 0, 1) := by decide +kernel
theorem dX10_isDigit_7 : decode cX10_isDigit 7 = .ok (.bipush 57, 2) := by decide +kernel
theorem dX10_isDigit_9 : decode cX10_isDigit 9 = .ok (.if_icmp .gt 7, 3) := by decide +kernel
theorem dX10_isDigit_12 : decode cX10_isDigit 12 = .ok (.iconst 1, 1) := by decide +kernel
theorem dX10_isDigit_13 : decode cX10_isDigit 13 = .ok (.goto 4, 3) := by decide +kernel
theorem dX10_isDigit_16 : decode cX10_isDigit 16 = .ok (.iconst 0, 1) := by decide +kernel
theorem dX10_isDigit_17 : decode cX10_isDigit 17 = .ok (.ireturn, 1) := by decide +kernel
def c_X10_isDigit_b17 (F : Nat) (cs : CS) (y0 : Int32) : Option Int32 := Option.bind (ckZ y0) fun _ => some y0
def c_X10_isDigit_b16 (F : Nat) (cs : CS) : Option Int32 := c_X10_isDigit_b17 F cs 0
def c_X10_isDigit (F : Nat) (cs : CS) (x0 : Int32) : Option Int32 := if x0 < 48 then (c_X10_isDigit_b16 F cs ) else (if 57 < x0 then (c_X10_isDigit_b16 F cs ) else (c_X10_isDigit_b17 F cs 1))
theorem cw_X10_X10_isDigit {R : Room} {s : State} {args : Array Value} {y0 : MethodName} {c0 : ByteArray} {n0 : Nat} {r0 : Option FieldType} (hts : ∀ w ∈ wsOf y0 c0 n0 r0, w.before args s = true) {fr : Nat} (h1 : fr + 1 ≤ R.frames) (h2 : 8 + (1 + 11) + 60 * fr ≤ R.locals) : CallB R s args RX10 77 yX10_isDigit cX10_isDigit 1 (some .boolean) (wsOf yX10_isDigit cX10_isDigit 1 (some .boolean)) ({ frames := fr, cells := 0, slots := 0, locals := 60 * fr } : Room) 0 0 1 ∧ (Cond.static yX10_isDigit).before args s = true := ⟨callB_of 1 hts (gd_all (in_I kc_X10_isDigit)) rfl rfl rfl (hts _ (List.mem_cons_of_mem _ kw_183)) (hts _ (List.mem_cons_of_mem _ kw_315)) (by decide +kernel) ⟨h1, h2⟩, hts _ (List.mem_cons_of_mem _ kw_316)⟩
set_option maxHeartbeats 4000000 in
set_option maxRecDepth 100000 in
theorem sc_X10_isDigit (l : Launch) (dC : Nat → ClassId) (dI : Nat → Nat → Nat) (cB cI cJ cZ cS cO : ClassId) (b : Nat) (K V : Nat → Nat) (fz : Value) (F : Nat) (cs : CS) (x0 : Int32) (r9 : Int32) (hf : c_X10_isDigit F cs x0 = some r9) : ocI l dC dI cB cI cJ cZ cS cO b K V fz yX10_isDigit (wsOf yX10_isDigit cX10_isDigit 1 (some .boolean)) (0) [.int x0] cs cs r9 := by
  intro sz
  refine Met.ofW (cc := cX10_isDigit) (maxL := 1) (ret := (some .boolean)) (by decide) rfl ?_
  intro p e s m args below meth c s₁ B hml hv
  obtain ⟨rfl, hsz, hP, hK, hD0, hZ⟩ := hv
  have hx := B.exec
  have hb := B.bytes
  have hr := B.returns
  have hts := atoms_spec (ws := (wsOf yX10_isDigit cX10_isDigit 1 (some .boolean))) B.pre
  have hown : s.vm.findClass RX10 = some m.cls := findClass_of_methodNamed B.named
  have hlocks := B.notSynchronized
  subst hsz
  have hD := hD0.self (sz := s.heap.size)
  generalize hAe : va_A (cW cB cI cJ cZ cS cO b cs) s.heap.size = A at hD hZ ⊢
  have hA : ∀ q : Nat, s.heap.size ≤ q → A q := fun q h => by rw [← hAe]; exact Or.inr h
  have hS : va_S A s.heap s.heap [] := va_S.rf
  have hl := lv_entry ([.int x0]) (n := 1) (Nat.le_of_ble_eq_true rfl)
  rw [lg_entry_eq]
  generalize (lg_sl ([.int x0]) ++ List.replicate (1 - (lg_sl ([.int x0])).length) Slot.unset).toArray = ls at hl ⊢
  have hl : lv_has ls 1 [(0, .int x0)] := hl
  have B_17 : ∀ (y0 : Int32), c_X10_isDigit_b17 F cs y0 = some r9 → ∀ (H : Heap) (locs : List Loc) (ls : Array Slot), va_P (dC, dI) vwCl (cW cB cI cJ cZ cS cO b cs) H → va_D A (cW cB cI cJ cZ cS cO b cs) → va_S A s.heap H locs → lv_has ls 1 [] → W p l e (headSpec (wsOf yX10_isDigit cX10_isDigit 1 (some .boolean)) ({ frames := 0, cells := 0, slots := 0, locals := 60 * (0) } : Room)).room s m ([.int x0] : List Value).toArray below meth c H locs 0 0 (MQ below (va_Qi (fun (x : Int32) (_ : Unit) => x = r9) (fun _ t_ => va_P (dC, dI) vwCl (cW cB cI cJ cZ cS cO b cs) t_.heap ∧ va_D A (cW cB cI cJ cZ cS cO b cs)) A) ([.int x0] : List Value).toArray s 0 0 A) (F0 m 17 ls [.int y0]) := by
    intro y0 h H locs ls hP hD hS hl
    unfold c_X10_isDigit_b17 at h
    replace h := ob h; obtain ⟨w_1, hw_1, h⟩ := h
    have e2 := Option.some.inj h
    exact W.zret (v := y0) hx hb hr (nzN (ckZ_some hw_1)) (fun t_ ht hW => ⟨⟨y0, (), rfl, e2, by rw [ht]; exact hP, hD⟩, hS.F ht⟩) hS.2.2 dX10_isDigit_17
  have B_16 : c_X10_isDigit_b16 F cs = some r9 → ∀ (H : Heap) (locs : List Loc) (ls : Array Slot), va_P (dC, dI) vwCl (cW cB cI cJ cZ cS cO b cs) H → va_D A (cW cB cI cJ cZ cS cO b cs) → va_S A s.heap H locs → lv_has ls 1 [] → W p l e (headSpec (wsOf yX10_isDigit cX10_isDigit 1 (some .boolean)) ({ frames := 0, cells := 0, slots := 0, locals := 60 * (0) } : Room)).room s m ([.int x0] : List Value).toArray below meth c H locs 0 0 (MQ below (va_Qi (fun (x : Int32) (_ : Unit) => x = r9) (fun _ t_ => va_P (dC, dI) vwCl (cW cB cI cJ cZ cS cO b cs) t_.heap ∧ va_D A (cW cB cI cJ cZ cS cO b cs)) A) ([.int x0] : List Value).toArray s 0 0 A) (F0 m 16 ls []) := by
    intro  h H locs ls hP hD hS hl
    unfold c_X10_isDigit_b16 at h
    refine lv_iconst (v := 0) hx hb dX10_isDigit_16 (by decide) ?_
    exact B_17 0 h _ _ _ hP hD hS (lv_sub hl [] rfl)
  have h := hf
  unfold c_X10_isDigit at h
  refine lv_iload_n hx hb dX10_isDigit_0 rfl (lv_at hl 0 rfl) ?_
  refine lv_bipush (v := 48) hx hb dX10_isDigit_1 (by decide) ?_
  refine lv_icmp_lt (tgt := 16) hx hb dX10_isDigit_3 (by decide) (fun c_2 => ?_) (fun c_2 => ?_)
  · skip
    replace h := (if_pos c_2).symm.trans h
    exact B_16  h _ _ _ hP hD hS (lv_sub hl [] rfl)
  · skip
    replace h := (if_neg c_2).symm.trans h
    refine lv_iload_n hx hb dX10_isDigit_6 rfl (lv_at hl 0 rfl) ?_
    refine lv_bipush (v := 57) hx hb dX10_isDigit_7 (by decide) ?_
    refine lv_icmp_gt (tgt := 16) hx hb dX10_isDigit_9 (by decide) (fun c_3 => ?_) (fun c_3 => ?_)
    · skip
      replace h := (if_pos c_3).symm.trans h
      exact B_16  h _ _ _ hP hD hS (lv_sub hl [] rfl)
    · skip
      replace h := (if_neg c_3).symm.trans h
      refine lv_iconst (v := 1) hx hb dX10_isDigit_12 (by decide) ?_
      refine lv_goto (tgt := 17) hx hb dX10_isDigit_13 (by decide) ?_
      exact B_17 1 h _ _ _ hP hD hS (lv_sub hl [] rfl)
theorem dX10_letterCode_0 : decode cX10_letterCode 0 = .ok (.iload_n 0, 1) := by decide +kernel
theorem dX10_letterCode_1 : decode cX10_letterCode 1 = .ok (.invokestatic 77, 3) := by decide +kernel
theorem dX10_letterCode_4 : decode cX10_letterCode 4 = .ok (.ifCond .eq 13, 3) := by decide +kernel
theorem dX10_letterCode_7 : decode cX10_letterCode 7 = .ok (.iload_n 0, 1) := by decide +kernel
theorem dX10_letterCode_8 : decode cX10_letterCode 8 = .ok (.bipush 48, 2) := by decide +kernel
theorem dX10_letterCode_10 : decode cX10_letterCode 10 = .ok (.isub, 1) := by decide +kernel
theorem dX10_letterCode_11 : decode cX10_letterCode 11 = .ok (.bipush 27, 2) := by decide +kernel
theorem dX10_letterCode_13 : decode cX10_letterCode 13 = .ok (.iadd, 1) := by decide +kernel
theorem dX10_letterCode_14 : decode cX10_letterCode 14 = .ok (.goto 9, 3) := by decide +kernel
theorem dX10_letterCode_17 : decode cX10_letterCode 17 = .ok (.iload_n 0, 1) := by decide +kernel
theorem dX10_letterCode_18 : decode cX10_letterCode 18 = .ok (.bipush 97, 2) := by decide +kernel
theorem dX10_letterCode_20 : decode cX10_letterCode 20 = .ok (.isub, 1) := by decide +kernel
theorem dX10_letterCode_21 : decode cX10_letterCode 21 = .ok (.iconst 1, 1) := by decide +kernel
theorem dX10_letterCode_22 : decode cX10_letterCode 22 = .ok (.iadd, 1) := by decide +kernel
theorem dX10_letterCode_23 : decode cX10_letterCode 23 = .ok (.ireturn, 1) := by decide +kernel
def c_X10_letterCode_b23 (F : Nat) (cs : CS) (y0 : Int32) : Option Int32 := some y0
def c_X10_letterCode (F : Nat) (cs : CS) (x0 : Int32) : Option Int32 := Option.bind (c_X10_isDigit F cs x0) fun v_1 => if v_1 = 0 then (c_X10_letterCode_b23 F cs ((x0 - 97) + 1)) else (c_X10_letterCode_b23 F cs ((x0 - 48) + 27))
theorem cw_X10_X10_letterCode {R : Room} {s : State} {args : Array Value} {y0 : MethodName} {c0 : ByteArray} {n0 : Nat} {r0 : Option FieldType} (hts : ∀ w ∈ wsOf y0 c0 n0 r0, w.before args s = true) {fr : Nat} (h1 : fr + 1 ≤ R.frames) (h2 : 8 + (1 + 11) + 60 * fr ≤ R.locals) : CallB R s args RX10 43 yX10_letterCode cX10_letterCode 1 (some .int) (wsOf yX10_letterCode cX10_letterCode 1 (some .int)) ({ frames := fr, cells := 0, slots := 0, locals := 60 * fr } : Room) 0 0 1 ∧ (Cond.static yX10_letterCode).before args s = true := ⟨callB_of 1 hts (gd_all (in_I kc_X10_letterCode)) rfl rfl rfl (hts _ (List.mem_cons_of_mem _ kw_183)) (hts _ (List.mem_cons_of_mem _ kw_312)) (by decide +kernel) ⟨h1, h2⟩, hts _ (List.mem_cons_of_mem _ kw_313)⟩
set_option maxHeartbeats 4000000 in
set_option maxRecDepth 100000 in
theorem sc_X10_letterCode (l : Launch) (dC : Nat → ClassId) (dI : Nat → Nat → Nat) (cB cI cJ cZ cS cO : ClassId) (b : Nat) (K V : Nat → Nat) (fz : Value) (F : Nat) (cs : CS) (x0 : Int32) (r9 : Int32) (hf : c_X10_letterCode F cs x0 = some r9) : ocI l dC dI cB cI cJ cZ cS cO b K V fz yX10_letterCode (wsOf yX10_letterCode cX10_letterCode 1 (some .int)) (1) [.int x0] cs cs r9 := by
  intro sz
  refine Met.ofW (cc := cX10_letterCode) (maxL := 1) (ret := (some .int)) (by decide) rfl ?_
  intro p e s m args below meth c s₁ B hml hv
  obtain ⟨rfl, hsz, hP, hK, hD0, hZ⟩ := hv
  have hx := B.exec
  have hb := B.bytes
  have hr := B.returns
  have hts := atoms_spec (ws := (wsOf yX10_letterCode cX10_letterCode 1 (some .int))) B.pre
  have hown : s.vm.findClass RX10 = some m.cls := findClass_of_methodNamed B.named
  have hlocks := B.notSynchronized
  subst hsz
  have hD := hD0.self (sz := s.heap.size)
  generalize hAe : va_A (cW cB cI cJ cZ cS cO b cs) s.heap.size = A at hD hZ ⊢
  have hA : ∀ q : Nat, s.heap.size ≤ q → A q := fun q h => by rw [← hAe]; exact Or.inr h
  have hS : va_S A s.heap s.heap [] := va_S.rf
  have hl := lv_entry ([.int x0]) (n := 1) (Nat.le_of_ble_eq_true rfl)
  rw [lg_entry_eq]
  generalize (lg_sl ([.int x0]) ++ List.replicate (1 - (lg_sl ([.int x0])).length) Slot.unset).toArray = ls at hl ⊢
  have hl : lv_has ls 1 [(0, .int x0)] := hl
  have B_23 : ∀ (y0 : Int32), c_X10_letterCode_b23 F cs y0 = some r9 → ∀ (H : Heap) (locs : List Loc) (ls : Array Slot), va_P (dC, dI) vwCl (cW cB cI cJ cZ cS cO b cs) H → va_D A (cW cB cI cJ cZ cS cO b cs) → va_S A s.heap H locs → lv_has ls 1 [] → W p l e (headSpec (wsOf yX10_letterCode cX10_letterCode 1 (some .int)) ({ frames := 1, cells := 0, slots := 0, locals := 60 * (1) } : Room)).room s m ([.int x0] : List Value).toArray below meth c H locs 0 0 (MQ below (va_Qi (fun (x : Int32) (_ : Unit) => x = r9) (fun _ t_ => va_P (dC, dI) vwCl (cW cB cI cJ cZ cS cO b cs) t_.heap ∧ va_D A (cW cB cI cJ cZ cS cO b cs)) A) ([.int x0] : List Value).toArray s 0 0 A) (F0 m 23 ls [.int y0]) := by
    intro y0 h H locs ls hP hD hS hl
    unfold c_X10_letterCode_b23 at h
    have e2 := Option.some.inj h
    exact W.iret (v := y0) hx hb hr (fun t_ ht hW => ⟨⟨y0, (), rfl, e2, by rw [ht]; exact hP, hD⟩, hS.F ht⟩) hS.2.2 dX10_letterCode_23
  have h := hf
  unfold c_X10_letterCode at h
  refine lv_iload_n hx hb dX10_letterCode_0 rfl (lv_at hl 0 rfl) ?_
  replace h := ob h; obtain ⟨v_1, hv_1, h⟩ := h
  refine ccSI (As := [.int x0]) hx hb hml hts hown hK hP hD hS hA hZ (sc_X10_isDigit l dC dI cB cI cJ cZ cS cO b K V fz F cs x0 v_1 hv_1) (cw_X10_X10_isDigit hts (fr := 0) (Nat.le_of_ble_eq_true rfl) (Nat.le_of_ble_eq_true rfl)) rfl hl.1 (Nat.le_of_ble_eq_true rfl) ⟨Nat.zero_le _, Nat.zero_le _⟩ dX10_letterCode_1 (fun H locs hP hD hS => ?_)
  refine lv_if_eq (tgt := 17) hx hb dX10_letterCode_4 (by decide) (fun c_2 => ?_) (fun c_2 => ?_)
  · skip
    replace h := (if_pos c_2).symm.trans h
    refine lv_iload_n hx hb dX10_letterCode_17 rfl (lv_at hl 0 rfl) ?_
    refine lv_bipush (v := 97) hx hb dX10_letterCode_18 (by decide) ?_
    refine lv_isub hx hb dX10_letterCode_20 ?_
    refine lv_iconst (v := 1) hx hb dX10_letterCode_21 (by decide) ?_
    refine lv_iadd hx hb dX10_letterCode_22 ?_
    exact B_23 ((x0 - 97) + 1) h _ _ _ hP hD hS (lv_sub hl [] rfl)
  · skip
    replace h := (if_neg c_2).symm.trans h
    refine lv_iload_n hx hb dX10_letterCode_7 rfl (lv_at hl 0 rfl) ?_
    refine lv_bipush (v := 48) hx hb dX10_letterCode_8 (by decide) ?_
    refine lv_isub hx hb dX10_letterCode_10 ?_
    refine lv_bipush (v := 27) hx hb dX10_letterCode_11 (by decide) ?_
    refine lv_iadd hx hb dX10_letterCode_13 ?_
    refine lv_goto (tgt := 23) hx hb dX10_letterCode_14 (by decide) ?_
    exact B_23 ((x0 - 48) + 27) h _ _ _ hP hD hS (lv_sub hl [] rfl)
theorem dX10_wordKind_0 : decode cX10_wordKind 0 = .ok (.iconst 0, 1) := by decide +kernel
theorem dX10_wordKind_1 : decode cX10_wordKind 1 = .ok (.istore_n 3, 1) := by decide +kernel
theorem dX10_wordKind_2 : decode cX10_wordKind 2 = .ok (.iload_n 3, 1) := by decide +kernel
theorem dX10_wordKind_3 : decode cX10_wordKind 3 = .ok (.aload_n 0, 1) := by decide +kernel
theorem dX10_wordKind_4 : decode cX10_wordKind 4 = .ok (.getfield 26, 3) := by decide +kernel
theorem dX10_wordKind_7 : decode cX10_wordKind 7 = .ok (.arraylength, 1) := by decide +kernel
theorem dX10_wordKind_8 : decode cX10_wordKind 8 = .ok (.if_icmp .ge 22, 3) := by decide +kernel
theorem dX10_wordKind_11 : decode cX10_wordKind 11 = .ok (.aload_n 0, 1) := by decide +kernel
theorem dX10_wordKind_12 : decode cX10_wordKind 12 = .ok (.getfield 26, 3) := by decide +kernel
theorem dX10_wordKind_15 : decode cX10_wordKind 15 = .ok (.iload_n 3, 1) := by decide +kernel
theorem dX10_wordKind_16 : decode cX10_wordKind 16 = .ok (.laload, 1) := by decide +kernel
theorem dX10_wordKind_17 : decode cX10_wordKind 17 = .ok (.lload_n 1, 1) := by decide +kernel
theorem dX10_wordKind_18 : decode cX10_wordKind 18 = .ok (.lcmp, 1) := by decide +kernel
theorem dX10_wordKind_19 : decode cX10_wordKind 19 = .ok (.ifCond .ne 5, 3) := by decide +kernel
theorem dX10_wordKind_22 : decode cX10_wordKind 22 = .ok (.iload_n 3, 1) := by decide +kernel
theorem dX10_wordKind_23 : decode cX10_wordKind 23 = .ok (.ireturn, 1) := by decide +kernel
theorem dX10_wordKind_24 : decode cX10_wordKind 24 = .ok (.iinc 3 1, 3) := by decide +kernel
theorem dX10_wordKind_27 : decode cX10_wordKind 27 = .ok (.goto (-25), 3) := by decide +kernel
theorem dX10_wordKind_30 : decode cX10_wordKind 30 = .ok (.bipush 39, 2) := by decide +kernel
theorem dX10_wordKind_32 : decode cX10_wordKind 32 = .ok (.ireturn, 1) := by decide +kernel
def c_X10_wordKind_L2 (F : Nat) (cs : CS) : Nat → Nat → Int64 → Int32 → Option Int32
  | 0, _, _, _ => none
  | lf_2 + 1, u0, u1, u3 => Option.bind (gA cs 11 358 u0) fun v_1 => Option.bind (lnA cs 358 u0 v_1) fun v_2 => if v_2 ≤ u3 then (some 39) else (Option.bind (gA cs 11 358 u0) fun v_4 => Option.bind (rB cs 358 u0 v_4 u3) fun v_5 => if v_5 = u1 then (some u3) else ((c_X10_wordKind_L2 F cs lf_2) u0 u1 (u3 + 1)))
def c_X10_wordKind (F : Nat) (cs : CS) (x0 : Nat) (x1 : Int64) : Option Int32 := c_X10_wordKind_L2 F cs F x0 x1 0
theorem cw_X10_X10_wordKind {R : Room} {s : State} {args : Array Value} {y0 : MethodName} {c0 : ByteArray} {n0 : Nat} {r0 : Option FieldType} (hts : ∀ w ∈ wsOf y0 c0 n0 r0, w.before args s = true) {fr : Nat} (h1 : fr + 1 ≤ R.frames) (h2 : 8 + (4 + 11) + 60 * fr ≤ R.locals) : CallW R s args RX10 RX10 89 yX10_wordKind cX10_wordKind 4 (some .int) (wsOf yX10_wordKind cX10_wordKind 4 (some .int)) ({ frames := fr, cells := 0, slots := 0, locals := 60 * fr } : Room) 0 0 1 := cwV 1 hts (gd_all (in_V kw_530 kw_532 kw_5 kw_183 kc_X10_wordKind)) rfl rfl rfl (by decide +kernel) ⟨h1, h2⟩
set_option maxHeartbeats 4000000 in
set_option maxRecDepth 100000 in
theorem sc_X10_wordKind (l : Launch) (dC : Nat → ClassId) (dI : Nat → Nat → Nat) (cB cI cJ cZ cS cO : ClassId) (b : Nat) (K V : Nat → Nat) (fz : Value) (F : Nat) (cs : CS) (x0 : Nat) (x1 : Int64) (r9 : Int32) (hf : c_X10_wordKind F cs x0 x1 = some r9) : ocI l dC dI cB cI cJ cZ cS cO b K V fz yX10_wordKind (wsOf yX10_wordKind cX10_wordKind 4 (some .int)) (0) [.ref (b + x0), .long x1] cs cs r9 := by
  intro sz
  refine Met.ofW (cc := cX10_wordKind) (maxL := 4) (ret := (some .int)) (by decide) rfl ?_
  intro p e s m args below meth c s₁ B hml hv
  obtain ⟨rfl, hsz, hP, hK, hD0, hZ⟩ := hv
  have hx := B.exec
  have hb := B.bytes
  have hr := B.returns
  have hts := atoms_spec (ws := (wsOf yX10_wordKind cX10_wordKind 4 (some .int))) B.pre
  have hown : s.vm.findClass RX10 = some m.cls := findClass_of_methodNamed B.named
  have hlocks := B.notSynchronized
  subst hsz
  have hD := hD0.self (sz := s.heap.size)
  generalize hAe : va_A (cW cB cI cJ cZ cS cO b cs) s.heap.size = A at hD hZ ⊢
  have hA : ∀ q : Nat, s.heap.size ≤ q → A q := fun q h => by rw [← hAe]; exact Or.inr h
  have hS : va_S A s.heap s.heap [] := va_S.rf
  have hl := lv_entry ([.ref (b + x0), .long x1]) (n := 4) (Nat.le_of_ble_eq_true rfl)
  rw [lg_entry_eq]
  generalize (lg_sl ([.ref (b + x0), .long x1]) ++ List.replicate (4 - (lg_sl ([.ref (b + x0), .long x1])).length) Slot.unset).toArray = ls at hl ⊢
  have hl : lv_has ls 4 [(0, .ref (b + x0)), (1, .long x1)] := hl
  have L_2 : ∀ (lf_2 : Nat), ∀ (u0 : Nat) (u1 : Int64) (u3 : Int32), c_X10_wordKind_L2 F cs lf_2 u0 u1 u3 = some r9 → ∀ (H : Heap) (locs : List Loc) (ls : Array Slot), va_P (dC, dI) vwCl (cW cB cI cJ cZ cS cO b cs) H → va_D A (cW cB cI cJ cZ cS cO b cs) → va_S A s.heap H locs → lv_has ls 4 [(0, .ref (b + u0)), (1, .long u1), (3, .int u3)] → W p l e (headSpec (wsOf yX10_wordKind cX10_wordKind 4 (some .int)) ({ frames := 0, cells := 0, slots := 0, locals := 60 * (0) } : Room)).room s m ([.ref (b + x0), .long x1] : List Value).toArray below meth c H locs 0 0 (MQ below (va_Qi (fun (x : Int32) (_ : Unit) => x = r9) (fun _ t_ => va_P (dC, dI) vwCl (cW cB cI cJ cZ cS cO b cs) t_.heap ∧ va_D A (cW cB cI cJ cZ cS cO b cs)) A) ([.ref (b + x0), .long x1] : List Value).toArray s 0 0 A) (F0 m 2 ls []) := by
    intro lf_2
    induction lf_2 with
    | zero => intro u0 u1 u3 h; cases (show (none : Option Int32) = _ from h)
    | succ lf_2 ih_2 =>
      intro u0 u1 u3 h H locs ls hP hD hS hl
      rw [c_X10_wordKind_L2] at h
      refine lv_iload_n hx hb dX10_wordKind_2 rfl (lv_at hl 2 rfl) ?_
      refine lv_aload_n hx hb dX10_wordKind_3 rfl (lv_at hl 0 rfl) ?_
      replace h := ob h; obtain ⟨v_1, hv_1, h⟩ := h
      refine fg_X10_26 hx hb hts hown hK hP hv_1 dX10_wordKind_4 ?_
      replace h := ob h; obtain ⟨v_2, hv_2, h⟩ := h
      refine alen2 hx hb hK hP rfl hv_2 dX10_wordKind_7 ?_
      refine lv_icmp_ge (tgt := 30) hx hb dX10_wordKind_8 (by decide) (fun c_3 => ?_) (fun c_3 => ?_)
      · skip
        replace h := (if_pos c_3).symm.trans h
        refine lv_bipush (v := 39) hx hb dX10_wordKind_30 (by decide) ?_
        have e2 := Option.some.inj h
        exact W.iret (v := 39) hx hb hr (fun t_ ht hW => ⟨⟨39, (), rfl, e2, by rw [ht]; exact hP, hD⟩, hS.F ht⟩) hS.2.2 dX10_wordKind_32
      · skip
        replace h := (if_neg c_3).symm.trans h
        refine lv_aload_n hx hb dX10_wordKind_11 rfl (lv_at hl 0 rfl) ?_
        replace h := ob h; obtain ⟨v_4, hv_4, h⟩ := h
        refine fg_X10_26 hx hb hts hown hK hP hv_4 dX10_wordKind_12 ?_
        refine lv_iload_n hx hb dX10_wordKind_15 rfl (lv_at hl 2 rfl) ?_
        replace h := ob h; obtain ⟨v_5, hv_5, h⟩ := h
        refine ald2 hx hb hK hP rfl hv_5 dX10_wordKind_16 ?_
        refine lv_lload_n hx hb dX10_wordKind_17 rfl (lv_at hl 1 rfl) ?_
        refine W.lcmp hx hb dX10_wordKind_18 ?_
        refine lv_if_ne (tgt := 24) hx hb dX10_wordKind_19 (by decide) (fun c_6 => ?_) (fun c_6 => ?_)
        · skip
          have c_6 : ¬ (v_5 = u1) := fun h9 => c_6 ((lg_cmp_eq _ _).mpr h9)
          replace h := (if_neg c_6).symm.trans h
          refine lv_iinc (v := u3 + 1) (lv' := [(3, .int (u3 + 1)), (0, .ref (b + u0)), (1, .long u1)]) hx hb dX10_wordKind_24 hl (k := 2) rfl rfl (by decide) rfl (fun ls hl => ?_)
          refine lv_goto (tgt := 2) hx hb dX10_wordKind_27 (by decide) ?_
          exact ih_2 u0 u1 (u3 + 1) h _ _ _ hP hD hS (lv_sub hl [1, 2, 0] rfl)
        · skip
          have c_6 : v_5 = u1 := (lg_cmp_eq _ _).mp c_6
          replace h := (if_pos c_6).symm.trans h
          refine lv_iload_n hx hb dX10_wordKind_22 rfl (lv_at hl 2 rfl) ?_
          have e2 := Option.some.inj h
          exact W.iret (v := u3) hx hb hr (fun t_ ht hW => ⟨⟨u3, (), rfl, e2, by rw [ht]; exact hP, hD⟩, hS.F ht⟩) hS.2.2 dX10_wordKind_23
  have h := hf
  unfold c_X10_wordKind at h
  refine lv_iconst (v := 0) hx hb dX10_wordKind_0 (by decide) ?_
  refine lv_istore_n (lv' := [(3, .int 0), (0, .ref (b + x0)), (1, .long x1)]) hx hb dX10_wordKind_1 rfl hl (by decide) rfl (fun ls hl => ?_)
  exact L_2 F x0 x1 0 h _ _ _ hP hD hS (lv_sub hl [1, 2, 0] rfl)
theorem dX10_scanWord_0 : decode cX10_scanWord 0 = .ok (.aload_n 0, 1) := by decide +kernel
theorem dX10_scanWord_1 : decode cX10_scanWord 1 = .ok (.getfield 57, 3) := by decide +kernel
theorem dX10_scanWord_4 : decode cX10_scanWord 4 = .ok (.istore_n 2, 1) := by decide +kernel
theorem dX10_scanWord_5 : decode cX10_scanWord 5 = .ok (.lconst 0, 1) := by decide +kernel
theorem dX10_scanWord_6 : decode cX10_scanWord 6 = .ok (.lstore_n 3, 1) := by decide +kernel
theorem dX10_scanWord_7 : decode cX10_scanWord 7 = .ok (.aload_n 0, 1) := by decide +kernel
theorem dX10_scanWord_8 : decode cX10_scanWord 8 = .ok (.getfield 57, 3) := by decide +kernel
theorem dX10_scanWord_11 : decode cX10_scanWord 11 = .ok (.aload_n 0, 1) := by decide +kernel
theorem dX10_scanWord_12 : decode cX10_scanWord 12 = .ok (.getfield 53, 3) := by decide +kernel
theorem dX10_scanWord_15 : decode cX10_scanWord 15 = .ok (.if_icmp .ge 63, 3) := by decide +kernel
theorem dX10_scanWord_18 : decode cX10_scanWord 18 = .ok (.aload_n 0, 1) := by decide +kernel
theorem dX10_scanWord_19 : decode cX10_scanWord 19 = .ok (.aload_n 0, 1) := by decide +kernel
theorem dX10_scanWord_20 : decode cX10_scanWord 20 = .ok (.getfield 57, 3) := by decide +kernel
theorem dX10_scanWord_23 : decode cX10_scanWord 23 = .ok (.invokevirtual 67, 3) := by decide +kernel
theorem dX10_scanWord_26 : decode cX10_scanWord 26 = .ok (.invokestatic 70, 3) := by decide +kernel
theorem dX10_scanWord_29 : decode cX10_scanWord 29 = .ok (.ifCond .ne 17, 3) := by decide +kernel
theorem dX10_scanWord_32 : decode cX10_scanWord 32 = .ok (.aload_n 0, 1) := by decide +kernel
theorem dX10_scanWord_33 : decode cX10_scanWord 33 = .ok (.aload_n 0, 1) := by decide +kernel
theorem dX10_scanWord_34 : decode cX10_scanWord 34 = .ok (.getfield 57, 3) := by decide +kernel
theorem dX10_scanWord_37 : decode cX10_scanWord 37 = .ok (.invokevirtual 67, 3) := by decide +kernel
theorem dX10_scanWord_40 : decode cX10_scanWord 40 = .ok (.invokestatic 77, 3) := by decide +kernel
theorem dX10_scanWord_43 : decode cX10_scanWord 43 = .ok (.ifCond .eq 35, 3) := by decide +kernel
theorem dX10_scanWord_46 : decode cX10_scanWord 46 = .ok (.lload_n 3, 1) := by decide +kernel
theorem dX10_scanWord_47 : decode cX10_scanWord 47 = .ok (.ldc2_w 41, 3) := by decide +kernel
theorem dX10_scanWord_50 : decode cX10_scanWord 50 = .ok (.lmul, 1) := by decide +kernel
theorem dX10_scanWord_51 : decode cX10_scanWord 51 = .ok (.aload_n 0, 1) := by decide +kernel
theorem dX10_scanWord_52 : decode cX10_scanWord 52 = .ok (.aload_n 0, 1) := by decide +kernel
theorem dX10_scanWord_53 : decode cX10_scanWord 53 = .ok (.getfield 57, 3) := by decide +kernel
theorem dX10_scanWord_56 : decode cX10_scanWord 56 = .ok (.invokevirtual 67, 3) := by decide +kernel
theorem dX10_scanWord_59 : decode cX10_scanWord 59 = .ok (.invokestatic 43, 3) := by decide +kernel
theorem dX10_scanWord_62 : decode cX10_scanWord 62 = .ok (.i2l, 1) := by decide +kernel
theorem dX10_scanWord_63 : decode cX10_scanWord 63 = .ok (.ladd, 1) := by decide +kernel
theorem dX10_scanWord_64 : decode cX10_scanWord 64 = .ok (.lstore_n 3, 1) := by decide +kernel
theorem dX10_scanWord_65 : decode cX10_scanWord 65 = .ok (.aload_n 0, 1) := by decide +kernel
theorem dX10_scanWord_66 : decode cX10_scanWord 66 = .ok (.dup, 1) := by decide +kernel
theorem dX10_scanWord_67 : decode cX10_scanWord 67 = .ok (.getfield 57, 3) := by decide +kernel
theorem dX10_scanWord_70 : decode cX10_scanWord 70 = .ok (.iconst 1, 1) := by decide +kernel
theorem dX10_scanWord_71 : decode cX10_scanWord 71 = .ok (.iadd, 1) := by decide +kernel
theorem dX10_scanWord_72 : decode cX10_scanWord 72 = .ok (.putfield 57, 3) := by decide +kernel
theorem dX10_scanWord_75 : decode cX10_scanWord 75 = .ok (.goto (-68), 3) := by decide +kernel
theorem dX10_scanWord_78 : decode cX10_scanWord 78 = .ok (.aload_n 0, 1) := by decide +kernel
theorem dX10_scanWord_79 : decode cX10_scanWord 79 = .ok (.getfield 18, 3) := by decide +kernel
theorem dX10_scanWord_82 : decode cX10_scanWord 82 = .ok (.iload_n 1, 1) := by decide +kernel
theorem dX10_scanWord_83 : decode cX10_scanWord 83 = .ok (.lload_n 3, 1) := by decide +kernel
theorem dX10_scanWord_84 : decode cX10_scanWord 84 = .ok (.lastore, 1) := by decide +kernel
theorem dX10_scanWord_85 : decode cX10_scanWord 85 = .ok (.aload_n 0, 1) := by decide +kernel
theorem dX10_scanWord_86 : decode cX10_scanWord 86 = .ok (.getfield 9, 3) := by decide +kernel
theorem dX10_scanWord_89 : decode cX10_scanWord 89 = .ok (.iload_n 1, 1) := by decide +kernel
theorem dX10_scanWord_90 : decode cX10_scanWord 90 = .ok (.aload_n 0, 1) := by decide +kernel
theorem dX10_scanWord_91 : decode cX10_scanWord 91 = .ok (.getfield 57, 3) := by decide +kernel
theorem dX10_scanWord_94 : decode cX10_scanWord 94 = .ok (.iload_n 2, 1) := by decide +kernel
theorem dX10_scanWord_95 : decode cX10_scanWord 95 = .ok (.isub, 1) := by decide +kernel
theorem dX10_scanWord_96 : decode cX10_scanWord 96 = .ok (.bipush 12, 2) := by decide +kernel
theorem dX10_scanWord_98 : decode cX10_scanWord 98 = .ok (.if_icmp .le 8, 3) := by decide +kernel
theorem dX10_scanWord_101 : decode cX10_scanWord 101 = .ok (.bipush 57, 2) := by decide +kernel
theorem dX10_scanWord_103 : decode cX10_scanWord 103 = .ok (.goto 8, 3) := by decide +kernel
theorem dX10_scanWord_106 : decode cX10_scanWord 106 = .ok (.aload_n 0, 1) := by decide +kernel
theorem dX10_scanWord_107 : decode cX10_scanWord 107 = .ok (.lload_n 3, 1) := by decide +kernel
theorem dX10_scanWord_108 : decode cX10_scanWord 108 = .ok (.invokevirtual 89, 3) := by decide +kernel
theorem dX10_scanWord_111 : decode cX10_scanWord 111 = .ok (.iastore, 1) := by decide +kernel
theorem dX10_scanWord_112 : decode cX10_scanWord 112 = .ok (.return_, 1) := by decide +kernel
def c_X10_scanWord_b111 (F : Nat) (cs1 : CS) (y0 : Int32) (y1 : Int32) (y2 : Nat) (wy2 : Nat) : Option CS := Option.bind (wA cs1 352 y2 wy2 y1 y0) fun cs_1 => some cs_1
def c_X10_scanWord_b78 (F : Nat) (cs1 : CS) (u0 : Nat) (u1 : Int32) (u2 : Int32) (u3 : Int64) : Option CS := Option.bind (gA cs1 11 354 u0) fun v_2 => Option.bind (wB cs1 354 u0 v_2 u1 u3) fun cs_3 => Option.bind (gA cs_3 11 352 u0) fun v_4 => Option.bind (gI cs_3 11 357 u0) fun v_5 => if (v_5 - u2) ≤ 12 then (Option.bind (ckE cs_3 11 u0) fun _ => Option.bind (c_X10_wordKind F cs_3 u0 u3) fun v_7 => c_X10_scanWord_b111 F cs_3 v_7 u1 u0 v_4) else (c_X10_scanWord_b111 F cs_3 57 u1 u0 v_4)
def c_X10_scanWord_b46 (F : Nat) (rc7 : CS → Nat → Int32 → Int32 → Int64 → Option CS) (cs1 : CS) (u0 : Nat) (u1 : Int32) (u2 : Int32) (u3 : Int64) : Option CS := Option.bind (gI cs1 11 357 u0) fun v_9 => Option.bind (ckE cs1 11 u0) fun _ => Option.bind (c_X10_byteAt F cs1 u0 v_9) fun v_10 => Option.bind (c_X10_letterCode F cs1 v_10) fun v_12 => Option.bind (gI cs1 11 357 u0) fun v_13 => Option.bind (pI cs1 11 357 u0 (v_13 + 1)) fun cs_14 => rc7 cs_14 u0 u1 u2 ((u3 * (37)) + ((v_12 : Int32).toInt64))
def c_X10_scanWord_L7 (F : Nat) : Nat → CS → Nat → Int32 → Int32 → Int64 → Option CS
  | 0, _, _, _, _, _ => none
  | lf_7 + 1, cs1, u0, u1, u2, u3 => Option.bind (gI cs1 11 357 u0) fun v_15 => Option.bind (gI cs1 11 356 u0) fun v_16 => if v_16 ≤ v_15 then (c_X10_scanWord_b78 F cs1 u0 u1 u2 u3) else (Option.bind (gI cs1 11 357 u0) fun v_18 => Option.bind (ckE cs1 11 u0) fun _ => Option.bind (c_X10_byteAt F cs1 u0 v_18) fun v_19 => Option.bind (c_X10_isLetter F cs1 v_19) fun v_21 => if v_21 = 0 then (Option.bind (gI cs1 11 357 u0) fun v_23 => Option.bind (ckE cs1 11 u0) fun _ => Option.bind (c_X10_byteAt F cs1 u0 v_23) fun v_24 => Option.bind (c_X10_isDigit F cs1 v_24) fun v_26 => if v_26 = 0 then (c_X10_scanWord_b78 F cs1 u0 u1 u2 u3) else (c_X10_scanWord_b46 F (c_X10_scanWord_L7 F lf_7) cs1 u0 u1 u2 u3)) else (c_X10_scanWord_b46 F (c_X10_scanWord_L7 F lf_7) cs1 u0 u1 u2 u3))
def c_X10_scanWord (F : Nat) (cs : CS) (x0 : Nat) (x1 : Int32) : Option CS := Option.bind (gI cs 11 357 x0) fun v_28 => c_X10_scanWord_L7 F F cs x0 x1 v_28 0
theorem cw_X10_X10_scanWord {R : Room} {s : State} {args : Array Value} {y0 : MethodName} {c0 : ByteArray} {n0 : Nat} {r0 : Option FieldType} (hts : ∀ w ∈ wsOf y0 c0 n0 r0, w.before args s = true) {fr : Nat} (h1 : fr + 1 ≤ R.frames) (h2 : 8 + (5 + 11) + 60 * fr ≤ R.locals) : CallW R s args RX10 RX10 74 yX10_scanWord cX10_scanWord 5 none (wsOf yX10_scanWord cX10_scanWord 5 none) ({ frames := fr, cells := 0, slots := 0, locals := 60 * fr } : Room) 0 0 1 := cwV 1 hts (gd_all (in_V kw_526 kw_528 kw_4 kw_183 kc_X10_scanWord)) rfl rfl rfl (by decide +kernel) ⟨h1, h2⟩
set_option maxHeartbeats 4000000 in
set_option maxRecDepth 100000 in
theorem sc_X10_scanWord (l : Launch) (dC : Nat → ClassId) (dI : Nat → Nat → Nat) (cB cI cJ cZ cS cO : ClassId) (b : Nat) (K V : Nat → Nat) (fz : Value) (F : Nat) (cs : CS) (x0 : Nat) (x1 : Int32) (cs9 : CS) (hf : c_X10_scanWord F cs x0 x1 = some cs9) : ocV l dC dI cB cI cJ cZ cS cO b K V fz yX10_scanWord (wsOf yX10_scanWord cX10_scanWord 5 none) (2) [.ref (b + x0), .int x1] cs cs9 := by
  intro sz
  refine Met.ofW (cc := cX10_scanWord) (maxL := 5) (ret := none) (by decide) rfl ?_
  intro p e s m args below meth c s₁ B hml hv
  obtain ⟨rfl, hsz, hP, hK, hD0, hZ⟩ := hv
  have hx := B.exec
  have hb := B.bytes
  have hr := B.returns
  have hts := atoms_spec (ws := (wsOf yX10_scanWord cX10_scanWord 5 none)) B.pre
  have hown : s.vm.findClass RX10 = some m.cls := findClass_of_methodNamed B.named
  have hlocks := B.notSynchronized
  subst hsz
  have hD := hD0.self (sz := s.heap.size)
  generalize hAe : va_A (cW cB cI cJ cZ cS cO b cs) s.heap.size = A at hD hZ ⊢
  have hA : ∀ q : Nat, s.heap.size ≤ q → A q := fun q h => by rw [← hAe]; exact Or.inr h
  have hS : va_S A s.heap s.heap [] := va_S.rf
  have hl := lv_entry ([.ref (b + x0), .int x1]) (n := 5) (Nat.le_of_ble_eq_true rfl)
  rw [lg_entry_eq]
  generalize (lg_sl ([.ref (b + x0), .int x1]) ++ List.replicate (5 - (lg_sl ([.ref (b + x0), .int x1])).length) Slot.unset).toArray = ls at hl ⊢
  have hl : lv_has ls 5 [(0, .ref (b + x0)), (1, .int x1)] := hl
  have B_111 : ∀ (cs1 : CS) (y0 : Int32) (y1 : Int32) (y2 : Nat) (wy2 : Nat), c_X10_scanWord_b111 F cs1 y0 y1 y2 wy2 = some cs9 → ∀ (H : Heap) (locs : List Loc) (ls : Array Slot), va_P (dC, dI) vwCl (cW cB cI cJ cZ cS cO b cs1) H → va_D A (cW cB cI cJ cZ cS cO b cs1) → va_S A s.heap H locs → lv_has ls 5 [] → W p l e (headSpec (wsOf yX10_scanWord cX10_scanWord 5 none) ({ frames := 2, cells := 0, slots := 0, locals := 60 * (2) } : Room)).room s m ([.ref (b + x0), .int x1] : List Value).toArray below meth c H locs 0 0 (MQ below (va_Qv (fun (_ : Unit) => True) (fun _ t_ => va_P (dC, dI) vwCl (cW cB cI cJ cZ cS cO b cs9) t_.heap ∧ va_D A (cW cB cI cJ cZ cS cO b cs9)) A) ([.ref (b + x0), .int x1] : List Value).toArray s 0 0 A) (F0 m 111 ls [.int y0, .int y1, .ref (b + wy2)]) := by
    intro cs1 y0 y1 y2 wy2 h H locs ls hP hD hS hl
    unfold c_X10_scanWord_b111 at h
    replace h := ob h; obtain ⟨cs_1, hv_1, h⟩ := h
    refine ast0 hx hb hK hP hD hS rfl hv_1 dX10_scanWord_111 (fun H locs hP hD hS => ?_)
    have e1 := Option.some.inj h
    rw [e1] at hP hD
    exact W.vret hx hb hr (fun t_ ht hW => ⟨⟨(), rfl, trivial, by rw [ht]; exact hP, hD⟩, hS.F ht⟩) hS.2.2 dX10_scanWord_112
  have B_78 : ∀ (cs1 : CS) (u0 : Nat) (u1 : Int32) (u2 : Int32) (u3 : Int64), c_X10_scanWord_b78 F cs1 u0 u1 u2 u3 = some cs9 → ∀ (H : Heap) (locs : List Loc) (ls : Array Slot), va_P (dC, dI) vwCl (cW cB cI cJ cZ cS cO b cs1) H → va_D A (cW cB cI cJ cZ cS cO b cs1) → va_S A s.heap H locs → lv_has ls 5 [(0, .ref (b + u0)), (1, .int u1), (2, .int u2), (3, .long u3)] → W p l e (headSpec (wsOf yX10_scanWord cX10_scanWord 5 none) ({ frames := 2, cells := 0, slots := 0, locals := 60 * (2) } : Room)).room s m ([.ref (b + x0), .int x1] : List Value).toArray below meth c H locs 0 0 (MQ below (va_Qv (fun (_ : Unit) => True) (fun _ t_ => va_P (dC, dI) vwCl (cW cB cI cJ cZ cS cO b cs9) t_.heap ∧ va_D A (cW cB cI cJ cZ cS cO b cs9)) A) ([.ref (b + x0), .int x1] : List Value).toArray s 0 0 A) (F0 m 78 ls []) := by
    intro cs1 u0 u1 u2 u3 h H locs ls hP hD hS hl
    unfold c_X10_scanWord_b78 at h
    refine lv_aload_n hx hb dX10_scanWord_78 rfl (lv_at hl 0 rfl) ?_
    replace h := ob h; obtain ⟨v_2, hv_2, h⟩ := h
    refine fg_X10_18 hx hb hts hown hK hP hv_2 dX10_scanWord_79 ?_
    refine lv_iload_n hx hb dX10_scanWord_82 rfl (lv_at hl 1 rfl) ?_
    refine lv_lload_n hx hb dX10_scanWord_83 rfl (lv_at hl 3 rfl) ?_
    replace h := ob h; obtain ⟨cs_3, hv_3, h⟩ := h
    refine ast2 hx hb hK hP hD hS rfl hv_3 dX10_scanWord_84 (fun H locs hP hD hS => ?_)
    refine lv_aload_n hx hb dX10_scanWord_85 rfl (lv_at hl 0 rfl) ?_
    replace h := ob h; obtain ⟨v_4, hv_4, h⟩ := h
    refine fg_X10_9 hx hb hts hown hK hP hv_4 dX10_scanWord_86 ?_
    refine lv_iload_n hx hb dX10_scanWord_89 rfl (lv_at hl 1 rfl) ?_
    refine lv_aload_n hx hb dX10_scanWord_90 rfl (lv_at hl 0 rfl) ?_
    replace h := ob h; obtain ⟨v_5, hv_5, h⟩ := h
    refine fg_X10_57 hx hb hts hown hK hP hv_5 dX10_scanWord_91 ?_
    refine lv_iload_n hx hb dX10_scanWord_94 rfl (lv_at hl 2 rfl) ?_
    refine lv_isub hx hb dX10_scanWord_95 ?_
    refine lv_bipush (v := 12) hx hb dX10_scanWord_96 (by decide) ?_
    refine lv_icmp_le (tgt := 106) hx hb dX10_scanWord_98 (by decide) (fun c_6 => ?_) (fun c_6 => ?_)
    · skip
      replace h := (if_pos c_6).symm.trans h
      refine lv_aload_n hx hb dX10_scanWord_106 rfl (lv_at hl 0 rfl) ?_
      refine lv_lload_n hx hb dX10_scanWord_107 rfl (lv_at hl 3 rfl) ?_
      replace h := ob h; obtain ⟨w_8, hw_8, h⟩ := h
      replace h := ob h; obtain ⟨v_7, hv_7, h⟩ := h
      refine ccI (As := [.long u3]) hx hb hml hts hown hK hP hD hS hA hZ (X := 11) (by decide) rfl (ckE_some hw_8) (sc_X10_wordKind l dC dI cB cI cJ cZ cS cO b K V fz F cs_3 u0 u3 v_7 hv_7) (cw_X10_X10_wordKind hts (fr := 0) (Nat.le_of_ble_eq_true rfl) (Nat.le_of_ble_eq_true rfl)) rfl hl.1 (Nat.le_of_ble_eq_true rfl) ⟨Nat.zero_le _, Nat.zero_le _⟩ dX10_scanWord_108 (fun H locs hP hD hS => ?_)
      exact B_111 cs_3 v_7 u1 u0 v_4 h _ _ _ hP hD hS (lv_sub hl [] rfl)
    · skip
      replace h := (if_neg c_6).symm.trans h
      refine lv_bipush (v := 57) hx hb dX10_scanWord_101 (by decide) ?_
      refine lv_goto (tgt := 111) hx hb dX10_scanWord_103 (by decide) ?_
      exact B_111 cs_3 57 u1 u0 v_4 h _ _ _ hP hD hS (lv_sub hl [] rfl)
  have L_7 : ∀ (lf_7 : Nat), ∀ (cs1 : CS) (u0 : Nat) (u1 : Int32) (u2 : Int32) (u3 : Int64), c_X10_scanWord_L7 F lf_7 cs1 u0 u1 u2 u3 = some cs9 → ∀ (H : Heap) (locs : List Loc) (ls : Array Slot), va_P (dC, dI) vwCl (cW cB cI cJ cZ cS cO b cs1) H → va_D A (cW cB cI cJ cZ cS cO b cs1) → va_S A s.heap H locs → lv_has ls 5 [(0, .ref (b + u0)), (1, .int u1), (2, .int u2), (3, .long u3)] → W p l e (headSpec (wsOf yX10_scanWord cX10_scanWord 5 none) ({ frames := 2, cells := 0, slots := 0, locals := 60 * (2) } : Room)).room s m ([.ref (b + x0), .int x1] : List Value).toArray below meth c H locs 0 0 (MQ below (va_Qv (fun (_ : Unit) => True) (fun _ t_ => va_P (dC, dI) vwCl (cW cB cI cJ cZ cS cO b cs9) t_.heap ∧ va_D A (cW cB cI cJ cZ cS cO b cs9)) A) ([.ref (b + x0), .int x1] : List Value).toArray s 0 0 A) (F0 m 7 ls []) := by
    intro lf_7
    induction lf_7 with
    | zero => intro cs1 u0 u1 u2 u3 h; cases (show (none : Option CS) = _ from h)
    | succ lf_7 ih_7 =>
      have B_46 : ∀ (cs1 : CS) (u0 : Nat) (u1 : Int32) (u2 : Int32) (u3 : Int64), c_X10_scanWord_b46 F (c_X10_scanWord_L7 F lf_7) cs1 u0 u1 u2 u3 = some cs9 → ∀ (H : Heap) (locs : List Loc) (ls : Array Slot), va_P (dC, dI) vwCl (cW cB cI cJ cZ cS cO b cs1) H → va_D A (cW cB cI cJ cZ cS cO b cs1) → va_S A s.heap H locs → lv_has ls 5 [(0, .ref (b + u0)), (1, .int u1), (2, .int u2), (3, .long u3)] → W p l e (headSpec (wsOf yX10_scanWord cX10_scanWord 5 none) ({ frames := 2, cells := 0, slots := 0, locals := 60 * (2) } : Room)).room s m ([.ref (b + x0), .int x1] : List Value).toArray below meth c H locs 0 0 (MQ below (va_Qv (fun (_ : Unit) => True) (fun _ t_ => va_P (dC, dI) vwCl (cW cB cI cJ cZ cS cO b cs9) t_.heap ∧ va_D A (cW cB cI cJ cZ cS cO b cs9)) A) ([.ref (b + x0), .int x1] : List Value).toArray s 0 0 A) (F0 m 46 ls []) := by
        intro cs1 u0 u1 u2 u3 h H locs ls hP hD hS hl
        unfold c_X10_scanWord_b46 at h
        refine lv_lload_n hx hb dX10_scanWord_46 rfl (lv_at hl 3 rfl) ?_
        refine lv_ldc2 hx hb hown (hts _ (List.mem_cons_of_mem _ kw_311)) dX10_scanWord_47 ?_
        refine lv_lmul hx hb dX10_scanWord_50 ?_
        refine lv_aload_n hx hb dX10_scanWord_51 rfl (lv_at hl 0 rfl) ?_
        refine lv_aload_n hx hb dX10_scanWord_52 rfl (lv_at hl 0 rfl) ?_
        replace h := ob h; obtain ⟨v_9, hv_9, h⟩ := h
        refine fg_X10_57 hx hb hts hown hK hP hv_9 dX10_scanWord_53 ?_
        replace h := ob h; obtain ⟨w_11, hw_11, h⟩ := h
        replace h := ob h; obtain ⟨v_10, hv_10, h⟩ := h
        refine ccI (As := [.int v_9]) hx hb hml hts hown hK hP hD hS hA hZ (X := 11) (by decide) rfl (ckE_some hw_11) (sc_X10_byteAt l dC dI cB cI cJ cZ cS cO b K V fz F cs1 u0 v_9 v_10 hv_10) (cw_X10_X10_byteAt hts (fr := 0) (Nat.le_of_ble_eq_true rfl) (Nat.le_of_ble_eq_true rfl)) rfl hl.1 (Nat.le_of_ble_eq_true rfl) ⟨Nat.zero_le _, Nat.zero_le _⟩ dX10_scanWord_56 (fun H locs hP hD hS => ?_)
        replace h := ob h; obtain ⟨v_12, hv_12, h⟩ := h
        refine ccSI (As := [.int v_10]) hx hb hml hts hown hK hP hD hS hA hZ (sc_X10_letterCode l dC dI cB cI cJ cZ cS cO b K V fz F cs1 v_10 v_12 hv_12) (cw_X10_X10_letterCode hts (fr := 1) (Nat.le_of_ble_eq_true rfl) (Nat.le_of_ble_eq_true rfl)) rfl hl.1 (Nat.le_of_ble_eq_true rfl) ⟨Nat.zero_le _, Nat.zero_le _⟩ dX10_scanWord_59 (fun H locs hP hD hS => ?_)
        refine lv_i2l hx hb dX10_scanWord_62 rfl ?_
        refine lv_ladd hx hb dX10_scanWord_63 ?_
        refine lv_lstore_n (lv' := [(3, .long ((u3 * (37)) + ((v_12 : Int32).toInt64))), (0, .ref (b + u0)), (1, .int u1), (2, .int u2)]) hx hb dX10_scanWord_64 rfl hl (by decide) rfl (fun ls hl => ?_)
        refine lv_aload_n hx hb dX10_scanWord_65 rfl (lv_at hl 1 rfl) ?_
        refine lv_dup hx hb dX10_scanWord_66 rfl ?_
        replace h := ob h; obtain ⟨v_13, hv_13, h⟩ := h
        refine fg_X10_57 hx hb hts hown hK hP hv_13 dX10_scanWord_67 ?_
        refine lv_iconst (v := 1) hx hb dX10_scanWord_70 (by decide) ?_
        refine lv_iadd hx hb dX10_scanWord_71 ?_
        replace h := ob h; obtain ⟨cs_14, hv_14, h⟩ := h
        refine fp_X10_57 hx hb hts hown hK hP hD hS hv_14 dX10_scanWord_72 (fun H locs hP hD hS => ?_)
        refine lv_goto (tgt := 7) hx hb dX10_scanWord_75 (by decide) ?_
        exact ih_7 cs_14 u0 u1 u2 ((u3 * (37)) + ((v_12 : Int32).toInt64)) h _ _ _ hP hD hS (lv_sub hl [1, 2, 3, 0] rfl)
      intro cs1 u0 u1 u2 u3 h H locs ls hP hD hS hl
      rw [c_X10_scanWord_L7] at h
      refine lv_aload_n hx hb dX10_scanWord_7 rfl (lv_at hl 0 rfl) ?_
      replace h := ob h; obtain ⟨v_15, hv_15, h⟩ := h
      refine fg_X10_57 hx hb hts hown hK hP hv_15 dX10_scanWord_8 ?_
      refine lv_aload_n hx hb dX10_scanWord_11 rfl (lv_at hl 0 rfl) ?_
      replace h := ob h; obtain ⟨v_16, hv_16, h⟩ := h
      refine fg_X10_53 hx hb hts hown hK hP hv_16 dX10_scanWord_12 ?_
      refine lv_icmp_ge (tgt := 78) hx hb dX10_scanWord_15 (by decide) (fun c_17 => ?_) (fun c_17 => ?_)
      · skip
        replace h := (if_pos c_17).symm.trans h
        exact B_78 cs1 u0 u1 u2 u3 h _ _ _ hP hD hS (lv_sub hl [0, 1, 2, 3] rfl)
      · skip
        replace h := (if_neg c_17).symm.trans h
        refine lv_aload_n hx hb dX10_scanWord_18 rfl (lv_at hl 0 rfl) ?_
        refine lv_aload_n hx hb dX10_scanWord_19 rfl (lv_at hl 0 rfl) ?_
        replace h := ob h; obtain ⟨v_18, hv_18, h⟩ := h
        refine fg_X10_57 hx hb hts hown hK hP hv_18 dX10_scanWord_20 ?_
        replace h := ob h; obtain ⟨w_20, hw_20, h⟩ := h
        replace h := ob h; obtain ⟨v_19, hv_19, h⟩ := h
        refine ccI (As := [.int v_18]) hx hb hml hts hown hK hP hD hS hA hZ (X := 11) (by decide) rfl (ckE_some hw_20) (sc_X10_byteAt l dC dI cB cI cJ cZ cS cO b K V fz F cs1 u0 v_18 v_19 hv_19) (cw_X10_X10_byteAt hts (fr := 0) (Nat.le_of_ble_eq_true rfl) (Nat.le_of_ble_eq_true rfl)) rfl hl.1 (Nat.le_of_ble_eq_true rfl) ⟨Nat.zero_le _, Nat.zero_le _⟩ dX10_scanWord_23 (fun H locs hP hD hS => ?_)
        replace h := ob h; obtain ⟨v_21, hv_21, h⟩ := h
        refine ccSI (As := [.int v_19]) hx hb hml hts hown hK hP hD hS hA hZ (sc_X10_isLetter l dC dI cB cI cJ cZ cS cO b K V fz F cs1 v_19 v_21 hv_21) (cw_X10_X10_isLetter hts (fr := 0) (Nat.le_of_ble_eq_true rfl) (Nat.le_of_ble_eq_true rfl)) rfl hl.1 (Nat.le_of_ble_eq_true rfl) ⟨Nat.zero_le _, Nat.zero_le _⟩ dX10_scanWord_26 (fun H locs hP hD hS => ?_)
        refine lv_if_ne (tgt := 46) hx hb dX10_scanWord_29 (by decide) (fun c_22 => ?_) (fun c_22 => ?_)
        · skip
          replace h := (if_neg c_22).symm.trans h
          exact B_46 cs1 u0 u1 u2 u3 h _ _ _ hP hD hS (lv_sub hl [0, 1, 2, 3] rfl)
        · skip
          replace h := (if_pos c_22).symm.trans h
          refine lv_aload_n hx hb dX10_scanWord_32 rfl (lv_at hl 0 rfl) ?_
          refine lv_aload_n hx hb dX10_scanWord_33 rfl (lv_at hl 0 rfl) ?_
          replace h := ob h; obtain ⟨v_23, hv_23, h⟩ := h
          refine fg_X10_57 hx hb hts hown hK hP hv_23 dX10_scanWord_34 ?_
          replace h := ob h; obtain ⟨w_25, hw_25, h⟩ := h
          replace h := ob h; obtain ⟨v_24, hv_24, h⟩ := h
          refine ccI (As := [.int v_23]) hx hb hml hts hown hK hP hD hS hA hZ (X := 11) (by decide) rfl (ckE_some hw_25) (sc_X10_byteAt l dC dI cB cI cJ cZ cS cO b K V fz F cs1 u0 v_23 v_24 hv_24) (cw_X10_X10_byteAt hts (fr := 0) (Nat.le_of_ble_eq_true rfl) (Nat.le_of_ble_eq_true rfl)) rfl hl.1 (Nat.le_of_ble_eq_true rfl) ⟨Nat.zero_le _, Nat.zero_le _⟩ dX10_scanWord_37 (fun H locs hP hD hS => ?_)
          replace h := ob h; obtain ⟨v_26, hv_26, h⟩ := h
          refine ccSI (As := [.int v_24]) hx hb hml hts hown hK hP hD hS hA hZ (sc_X10_isDigit l dC dI cB cI cJ cZ cS cO b K V fz F cs1 v_24 v_26 hv_26) (cw_X10_X10_isDigit hts (fr := 0) (Nat.le_of_ble_eq_true rfl) (Nat.le_of_ble_eq_true rfl)) rfl hl.1 (Nat.le_of_ble_eq_true rfl) ⟨Nat.zero_le _, Nat.zero_le _⟩ dX10_scanWord_40 (fun H locs hP hD hS => ?_)
          refine lv_if_eq (tgt := 78) hx hb dX10_scanWord_43 (by decide) (fun c_27 => ?_) (fun c_27 => ?_)
          · skip
            replace h := (if_pos c_27).symm.trans h
            exact B_78 cs1 u0 u1 u2 u3 h _ _ _ hP hD hS (lv_sub hl [0, 1, 2, 3] rfl)
          · skip
            replace h := (if_neg c_27).symm.trans h
            exact B_46 cs1 u0 u1 u2 u3 h _ _ _ hP hD hS (lv_sub hl [0, 1, 2, 3] rfl)
  have h := hf
  unfold c_X10_scanWord at h
  refine lv_aload_n hx hb dX10_scanWord_0 rfl (lv_at hl 0 rfl) ?_
  replace h := ob h; obtain ⟨v_28, hv_28, h⟩ := h
  refine fg_X10_57 hx hb hts hown hK hP hv_28 dX10_scanWord_1 ?_
  refine lv_istore_n (lv' := [(2, .int v_28), (0, .ref (b + x0)), (1, .int x1)]) hx hb dX10_scanWord_4 rfl hl (by decide) rfl (fun ls hl => ?_)
  refine lv_lconst (v := 0) hx hb dX10_scanWord_5 (by decide) ?_
  refine lv_lstore_n (lv' := [(3, .long 0), (2, .int v_28), (0, .ref (b + x0)), (1, .int x1)]) hx hb dX10_scanWord_6 rfl hl (by decide) rfl (fun ls hl => ?_)
  exact L_7 F cs x0 x1 v_28 0 h _ _ _ hP hD hS (lv_sub hl [2, 3, 1, 0] rfl)
theorem dX10_scanNumber_0 : decode cX10_scanNumber 0 = .ok (.lconst 0, 1) := by decide +kernel
theorem dX10_scanNumber_1 : decode cX10_scanNumber 1 = .ok (.lstore_n 2, 1) := by decide +kernel
theorem dX10_scanNumber_2 : decode cX10_scanNumber 2 = .ok (.aload_n 0, 1) := by decide +kernel
theorem dX10_scanNumber_3 : decode cX10_scanNumber 3 = .ok (.getfield 9, 3) := by decide +kernel
theorem dX10_scanNumber_6 : decode cX10_scanNumber 6 = .ok (.iload_n 1, 1) := by decide +kernel
theorem dX10_scanNumber_7 : decode cX10_scanNumber 7 = .ok (.bipush 40, 2) := by decide +kernel
theorem dX10_scanNumber_9 : decode cX10_scanNumber 9 = .ok (.iastore, 1) := by decide +kernel
theorem dX10_scanNumber_10 : decode cX10_scanNumber 10 = .ok (.aload_n 0, 1) := by decide +kernel
theorem dX10_scanNumber_11 : decode cX10_scanNumber 11 = .ok (.getfield 57, 3) := by decide +kernel
theorem dX10_scanNumber_14 : decode cX10_scanNumber 14 = .ok (.aload_n 0, 1) := by decide +kernel
theorem dX10_scanNumber_15 : decode cX10_scanNumber 15 = .ok (.getfield 53, 3) := by decide +kernel
theorem dX10_scanNumber_18 : decode cX10_scanNumber 18 = .ok (.if_icmp .ge 80, 3) := by decide +kernel
theorem dX10_scanNumber_21 : decode cX10_scanNumber 21 = .ok (.aload_n 0, 1) := by decide +kernel
theorem dX10_scanNumber_22 : decode cX10_scanNumber 22 = .ok (.aload_n 0, 1) := by decide +kernel
theorem dX10_scanNumber_23 : decode cX10_scanNumber 23 = .ok (.getfield 57, 3) := by decide +kernel
theorem dX10_scanNumber_26 : decode cX10_scanNumber 26 = .ok (.invokevirtual 67, 3) := by decide +kernel
theorem dX10_scanNumber_29 : decode cX10_scanNumber 29 = .ok (.invokestatic 77, 3) := by decide +kernel
theorem dX10_scanNumber_32 : decode cX10_scanNumber 32 = .ok (.ifCond .eq 66, 3) := by decide +kernel
theorem dX10_scanNumber_35 : decode cX10_scanNumber 35 = .ok (.aload_n 0, 1) := by decide +kernel
theorem dX10_scanNumber_36 : decode cX10_scanNumber 36 = .ok (.aload_n 0, 1) := by decide +kernel
theorem dX10_scanNumber_37 : decode cX10_scanNumber 37 = .ok (.getfield 57, 3) := by decide +kernel
theorem dX10_scanNumber_40 : decode cX10_scanNumber 40 = .ok (.invokevirtual 67, 3) := by decide +kernel
theorem dX10_scanNumber_43 : decode cX10_scanNumber 43 = .ok (.bipush 48, 2) := by decide +kernel
theorem dX10_scanNumber_45 : decode cX10_scanNumber 45 = .ok (.isub, 1) := by decide +kernel
theorem dX10_scanNumber_46 : decode cX10_scanNumber 46 = .ok (.istore 4, 2) := by decide +kernel
theorem dX10_scanNumber_48 : decode cX10_scanNumber 48 = .ok (.lload_n 2, 1) := by decide +kernel
theorem dX10_scanNumber_49 : decode cX10_scanNumber 49 = .ok (.ldc2_w 95, 3) := by decide +kernel
theorem dX10_scanNumber_52 : decode cX10_scanNumber 52 = .ok (.iload 4, 2) := by decide +kernel
theorem dX10_scanNumber_54 : decode cX10_scanNumber 54 = .ok (.i2l, 1) := by decide +kernel
theorem dX10_scanNumber_55 : decode cX10_scanNumber 55 = .ok (.lsub, 1) := by decide +kernel
theorem dX10_scanNumber_56 : decode cX10_scanNumber 56 = .ok (.ldc2_w 97, 3) := by decide +kernel
theorem dX10_scanNumber_59 : decode cX10_scanNumber 59 = .ok (.ldiv, 1) := by decide +kernel
theorem dX10_scanNumber_60 : decode cX10_scanNumber 60 = .ok (.lcmp, 1) := by decide +kernel
theorem dX10_scanNumber_61 : decode cX10_scanNumber 61 = .ok (.ifCond .le 14, 3) := by decide +kernel
theorem dX10_scanNumber_64 : decode cX10_scanNumber 64 = .ok (.aload_n 0, 1) := by decide +kernel
theorem dX10_scanNumber_65 : decode cX10_scanNumber 65 = .ok (.getfield 9, 3) := by decide +kernel
theorem dX10_scanNumber_68 : decode cX10_scanNumber 68 = .ok (.iload_n 1, 1) := by decide +kernel
theorem dX10_scanNumber_69 : decode cX10_scanNumber 69 = .ok (.bipush 57, 2) := by decide +kernel
theorem dX10_scanNumber_71 : decode cX10_scanNumber 71 = .ok (.iastore, 1) := by decide +kernel
theorem dX10_scanNumber_72 : decode cX10_scanNumber 72 = .ok (.goto 13, 3) := by decide +kernel
theorem dX10_scanNumber_75 : decode cX10_scanNumber 75 = .ok (.lload_n 2, 1) := by decide +kernel
theorem dX10_scanNumber_76 : decode cX10_scanNumber 76 = .ok (.ldc2_w 97, 3) := by decide +kernel
theorem dX10_scanNumber_79 : decode cX10_scanNumber 79 = .ok (.lmul, 1) := by decide +kernel
theorem dX10_scanNumber_80 : decode cX10_scanNumber 80 = .ok (.iload 4, 2) := by decide +kernel
theorem dX10_scanNumber_82 : decode cX10_scanNumber 82 = .ok (.i2l, 1) := by decide +kernel
theorem dX10_scanNumber_83 : decode cX10_scanNumber 83 = .ok (.ladd, 1) := by decide +kernel
theorem dX10_scanNumber_84 : decode cX10_scanNumber 84 = .ok (.lstore_n 2, 1) := by decide +kernel
theorem dX10_scanNumber_85 : decode cX10_scanNumber 85 = .ok (.aload_n 0, 1) := by decide +kernel
theorem dX10_scanNumber_86 : decode cX10_scanNumber 86 = .ok (.dup, 1) := by decide +kernel
theorem dX10_scanNumber_87 : decode cX10_scanNumber 87 = .ok (.getfield 57, 3) := by decide +kernel
theorem dX10_scanNumber_90 : decode cX10_scanNumber 90 = .ok (.iconst 1, 1) := by decide +kernel
theorem dX10_scanNumber_91 : decode cX10_scanNumber 91 = .ok (.iadd, 1) := by decide +kernel
theorem dX10_scanNumber_92 : decode cX10_scanNumber 92 = .ok (.putfield 57, 3) := by decide +kernel
theorem dX10_scanNumber_95 : decode cX10_scanNumber 95 = .ok (.goto (-85), 3) := by decide +kernel
theorem dX10_scanNumber_98 : decode cX10_scanNumber 98 = .ok (.aload_n 0, 1) := by decide +kernel
theorem dX10_scanNumber_99 : decode cX10_scanNumber 99 = .ok (.getfield 18, 3) := by decide +kernel
theorem dX10_scanNumber_102 : decode cX10_scanNumber 102 = .ok (.iload_n 1, 1) := by decide +kernel
theorem dX10_scanNumber_103 : decode cX10_scanNumber 103 = .ok (.lload_n 2, 1) := by decide +kernel
theorem dX10_scanNumber_104 : decode cX10_scanNumber 104 = .ok (.lastore, 1) := by decide +kernel
theorem dX10_scanNumber_105 : decode cX10_scanNumber 105 = .ok (.aload_n 0, 1) := by decide +kernel
theorem dX10_scanNumber_106 : decode cX10_scanNumber 106 = .ok (.aload_n 0, 1) := by decide +kernel
theorem dX10_scanNumber_107 : decode cX10_scanNumber 107 = .ok (.getfield 57, 3) := by decide +kernel
theorem dX10_scanNumber_110 : decode cX10_scanNumber 110 = .ok (.invokevirtual 67, 3) := by decide +kernel
theorem dX10_scanNumber_113 : decode cX10_scanNumber 113 = .ok (.invokestatic 70, 3) := by decide +kernel
theorem dX10_scanNumber_116 : decode cX10_scanNumber 116 = .ok (.ifCond .eq 11, 3) := by decide +kernel
theorem dX10_scanNumber_119 : decode cX10_scanNumber 119 = .ok (.aload_n 0, 1) := by decide +kernel
theorem dX10_scanNumber_120 : decode cX10_scanNumber 120 = .ok (.getfield 9, 3) := by decide +kernel
theorem dX10_scanNumber_123 : decode cX10_scanNumber 123 = .ok (.iload_n 1, 1) := by decide +kernel
theorem dX10_scanNumber_124 : decode cX10_scanNumber 124 = .ok (.bipush 57, 2) := by decide +kernel
theorem dX10_scanNumber_126 : decode cX10_scanNumber 126 = .ok (.iastore, 1) := by decide +kernel
theorem dX10_scanNumber_127 : decode cX10_scanNumber 127 = .ok (.return_, 1) := by decide +kernel
def c_X10_scanNumber_b127 (F : Nat) (cs1 : CS) : Option CS := some cs1
def c_X10_scanNumber_b98 (F : Nat) (cs1 : CS) (u0 : Nat) (u1 : Int32) (u2 : Int64) : Option CS := Option.bind (gA cs1 11 354 u0) fun v_1 => Option.bind (wB cs1 354 u0 v_1 u1 u2) fun cs_2 => Option.bind (gI cs_2 11 357 u0) fun v_3 => Option.bind (ckE cs_2 11 u0) fun _ => Option.bind (c_X10_byteAt F cs_2 u0 v_3) fun v_4 => Option.bind (c_X10_isLetter F cs_2 v_4) fun v_6 => if v_6 = 0 then (c_X10_scanNumber_b127 F cs_2) else (Option.bind (gA cs_2 11 352 u0) fun v_8 => Option.bind (wA cs_2 352 u0 v_8 u1 57) fun cs_9 => c_X10_scanNumber_b127 F cs_9)
def c_X10_scanNumber_b85 (F : Nat) (rc10 : CS → Nat → Int32 → Int64 → Option CS) (cs1 : CS) (u0 : Nat) (u1 : Int32) (u2 : Int64) : Option CS := Option.bind (gI cs1 11 357 u0) fun v_10 => Option.bind (pI cs1 11 357 u0 (v_10 + 1)) fun cs_11 => rc10 cs_11 u0 u1 u2
def c_X10_scanNumber_L10 (F : Nat) : Nat → CS → Nat → Int32 → Int64 → Option CS
  | 0, _, _, _, _ => none
  | lf_10 + 1, cs1, u0, u1, u2 => Option.bind (gI cs1 11 357 u0) fun v_12 => Option.bind (gI cs1 11 356 u0) fun v_13 => if v_13 ≤ v_12 then (c_X10_scanNumber_b98 F cs1 u0 u1 u2) else (Option.bind (gI cs1 11 357 u0) fun v_15 => Option.bind (ckE cs1 11 u0) fun _ => Option.bind (c_X10_byteAt F cs1 u0 v_15) fun v_16 => Option.bind (c_X10_isDigit F cs1 v_16) fun v_18 => if v_18 = 0 then (c_X10_scanNumber_b98 F cs1 u0 u1 u2) else (Option.bind (gI cs1 11 357 u0) fun v_20 => Option.bind (ckE cs1 11 u0) fun _ => Option.bind (c_X10_byteAt F cs1 u0 v_20) fun v_21 => Option.bind (ckD (10)) fun _ => if u2 ≤ (((9223372036854775807) - ((v_21 - 48 : Int32).toInt64)) / (10)) then (c_X10_scanNumber_b85 F (c_X10_scanNumber_L10 F lf_10) cs1 u0 u1 ((u2 * (10)) + ((v_21 - 48 : Int32).toInt64))) else (Option.bind (gA cs1 11 352 u0) fun v_25 => Option.bind (wA cs1 352 u0 v_25 u1 57) fun cs_26 => c_X10_scanNumber_b85 F (c_X10_scanNumber_L10 F lf_10) cs_26 u0 u1 u2)))
def c_X10_scanNumber (F : Nat) (cs : CS) (x0 : Nat) (x1 : Int32) : Option CS := Option.bind (gA cs 11 352 x0) fun v_27 => Option.bind (wA cs 352 x0 v_27 x1 40) fun cs_28 => c_X10_scanNumber_L10 F F cs_28 x0 x1 0
theorem cw_X10_X10_scanNumber {R : Room} {s : State} {args : Array Value} {y0 : MethodName} {c0 : ByteArray} {n0 : Nat} {r0 : Option FieldType} (hts : ∀ w ∈ wsOf y0 c0 n0 r0, w.before args s = true) {fr : Nat} (h1 : fr + 1 ≤ R.frames) (h2 : 8 + (5 + 11) + 60 * fr ≤ R.locals) : CallW R s args RX10 RX10 80 yX10_scanNumber cX10_scanNumber 5 none (wsOf yX10_scanNumber cX10_scanNumber 5 none) ({ frames := fr, cells := 0, slots := 0, locals := 60 * fr } : Room) 0 0 1 := cwV 1 hts (gd_all (in_V kw_534 kw_536 kw_6 kw_183 kc_X10_scanNumber)) rfl rfl rfl (by decide +kernel) ⟨h1, h2⟩
set_option maxHeartbeats 4000000 in
set_option maxRecDepth 100000 in
theorem sc_X10_scanNumber (l : Launch) (dC : Nat → ClassId) (dI : Nat → Nat → Nat) (cB cI cJ cZ cS cO : ClassId) (b : Nat) (K V : Nat → Nat) (fz : Value) (F : Nat) (cs : CS) (x0 : Nat) (x1 : Int32) (cs9 : CS) (hf : c_X10_scanNumber F cs x0 x1 = some cs9) : ocV l dC dI cB cI cJ cZ cS cO b K V fz yX10_scanNumber (wsOf yX10_scanNumber cX10_scanNumber 5 none) (1) [.ref (b + x0), .int x1] cs cs9 := by
  intro sz
  refine Met.ofW (cc := cX10_scanNumber) (maxL := 5) (ret := none) (by decide) rfl ?_
  intro p e s m args below meth c s₁ B hml hv
  obtain ⟨rfl, hsz, hP, hK, hD0, hZ⟩ := hv
  have hx := B.exec
  have hb := B.bytes
  have hr := B.returns
  have hts := atoms_spec (ws := (wsOf yX10_scanNumber cX10_scanNumber 5 none)) B.pre
  have hown : s.vm.findClass RX10 = some m.cls := findClass_of_methodNamed B.named
  have hlocks := B.notSynchronized
  subst hsz
  have hD := hD0.self (sz := s.heap.size)
  generalize hAe : va_A (cW cB cI cJ cZ cS cO b cs) s.heap.size = A at hD hZ ⊢
  have hA : ∀ q : Nat, s.heap.size ≤ q → A q := fun q h => by rw [← hAe]; exact Or.inr h
  have hS : va_S A s.heap s.heap [] := va_S.rf
  have hl := lv_entry ([.ref (b + x0), .int x1]) (n := 5) (Nat.le_of_ble_eq_true rfl)
  rw [lg_entry_eq]
  generalize (lg_sl ([.ref (b + x0), .int x1]) ++ List.replicate (5 - (lg_sl ([.ref (b + x0), .int x1])).length) Slot.unset).toArray = ls at hl ⊢
  have hl : lv_has ls 5 [(0, .ref (b + x0)), (1, .int x1)] := hl
  have B_127 : ∀ (cs1 : CS) , c_X10_scanNumber_b127 F cs1 = some cs9 → ∀ (H : Heap) (locs : List Loc) (ls : Array Slot), va_P (dC, dI) vwCl (cW cB cI cJ cZ cS cO b cs1) H → va_D A (cW cB cI cJ cZ cS cO b cs1) → va_S A s.heap H locs → lv_has ls 5 [] → W p l e (headSpec (wsOf yX10_scanNumber cX10_scanNumber 5 none) ({ frames := 1, cells := 0, slots := 0, locals := 60 * (1) } : Room)).room s m ([.ref (b + x0), .int x1] : List Value).toArray below meth c H locs 0 0 (MQ below (va_Qv (fun (_ : Unit) => True) (fun _ t_ => va_P (dC, dI) vwCl (cW cB cI cJ cZ cS cO b cs9) t_.heap ∧ va_D A (cW cB cI cJ cZ cS cO b cs9)) A) ([.ref (b + x0), .int x1] : List Value).toArray s 0 0 A) (F0 m 127 ls []) := by
    intro cs1  h H locs ls hP hD hS hl
    unfold c_X10_scanNumber_b127 at h
    have e1 := Option.some.inj h
    rw [e1] at hP hD
    exact W.vret hx hb hr (fun t_ ht hW => ⟨⟨(), rfl, trivial, by rw [ht]; exact hP, hD⟩, hS.F ht⟩) hS.2.2 dX10_scanNumber_127
  have B_98 : ∀ (cs1 : CS) (u0 : Nat) (u1 : Int32) (u2 : Int64), c_X10_scanNumber_b98 F cs1 u0 u1 u2 = some cs9 → ∀ (H : Heap) (locs : List Loc) (ls : Array Slot), va_P (dC, dI) vwCl (cW cB cI cJ cZ cS cO b cs1) H → va_D A (cW cB cI cJ cZ cS cO b cs1) → va_S A s.heap H locs → lv_has ls 5 [(0, .ref (b + u0)), (1, .int u1), (2, .long u2)] → W p l e (headSpec (wsOf yX10_scanNumber cX10_scanNumber 5 none) ({ frames := 1, cells := 0, slots := 0, locals := 60 * (1) } : Room)).room s m ([.ref (b + x0), .int x1] : List Value).toArray below meth c H locs 0 0 (MQ below (va_Qv (fun (_ : Unit) => True) (fun _ t_ => va_P (dC, dI) vwCl (cW cB cI cJ cZ cS cO b cs9) t_.heap ∧ va_D A (cW cB cI cJ cZ cS cO b cs9)) A) ([.ref (b + x0), .int x1] : List Value).toArray s 0 0 A) (F0 m 98 ls []) := by
    intro cs1 u0 u1 u2 h H locs ls hP hD hS hl
    unfold c_X10_scanNumber_b98 at h
    refine lv_aload_n hx hb dX10_scanNumber_98 rfl (lv_at hl 0 rfl) ?_
    replace h := ob h; obtain ⟨v_1, hv_1, h⟩ := h
    refine fg_X10_18 hx hb hts hown hK hP hv_1 dX10_scanNumber_99 ?_
    refine lv_iload_n hx hb dX10_scanNumber_102 rfl (lv_at hl 1 rfl) ?_
    refine lv_lload_n hx hb dX10_scanNumber_103 rfl (lv_at hl 2 rfl) ?_
    replace h := ob h; obtain ⟨cs_2, hv_2, h⟩ := h
    refine ast2 hx hb hK hP hD hS rfl hv_2 dX10_scanNumber_104 (fun H locs hP hD hS => ?_)
    refine lv_aload_n hx hb dX10_scanNumber_105 rfl (lv_at hl 0 rfl) ?_
    refine lv_aload_n hx hb dX10_scanNumber_106 rfl (lv_at hl 0 rfl) ?_
    replace h := ob h; obtain ⟨v_3, hv_3, h⟩ := h
    refine fg_X10_57 hx hb hts hown hK hP hv_3 dX10_scanNumber_107 ?_
    replace h := ob h; obtain ⟨w_5, hw_5, h⟩ := h
    replace h := ob h; obtain ⟨v_4, hv_4, h⟩ := h
    refine ccI (As := [.int v_3]) hx hb hml hts hown hK hP hD hS hA hZ (X := 11) (by decide) rfl (ckE_some hw_5) (sc_X10_byteAt l dC dI cB cI cJ cZ cS cO b K V fz F cs_2 u0 v_3 v_4 hv_4) (cw_X10_X10_byteAt hts (fr := 0) (Nat.le_of_ble_eq_true rfl) (Nat.le_of_ble_eq_true rfl)) rfl hl.1 (Nat.le_of_ble_eq_true rfl) ⟨Nat.zero_le _, Nat.zero_le _⟩ dX10_scanNumber_110 (fun H locs hP hD hS => ?_)
    replace h := ob h; obtain ⟨v_6, hv_6, h⟩ := h
    refine ccSI (As := [.int v_4]) hx hb hml hts hown hK hP hD hS hA hZ (sc_X10_isLetter l dC dI cB cI cJ cZ cS cO b K V fz F cs_2 v_4 v_6 hv_6) (cw_X10_X10_isLetter hts (fr := 0) (Nat.le_of_ble_eq_true rfl) (Nat.le_of_ble_eq_true rfl)) rfl hl.1 (Nat.le_of_ble_eq_true rfl) ⟨Nat.zero_le _, Nat.zero_le _⟩ dX10_scanNumber_113 (fun H locs hP hD hS => ?_)
    refine lv_if_eq (tgt := 127) hx hb dX10_scanNumber_116 (by decide) (fun c_7 => ?_) (fun c_7 => ?_)
    · skip
      replace h := (if_pos c_7).symm.trans h
      exact B_127 cs_2 h _ _ _ hP hD hS (lv_sub hl [] rfl)
    · skip
      replace h := (if_neg c_7).symm.trans h
      refine lv_aload_n hx hb dX10_scanNumber_119 rfl (lv_at hl 0 rfl) ?_
      replace h := ob h; obtain ⟨v_8, hv_8, h⟩ := h
      refine fg_X10_9 hx hb hts hown hK hP hv_8 dX10_scanNumber_120 ?_
      refine lv_iload_n hx hb dX10_scanNumber_123 rfl (lv_at hl 1 rfl) ?_
      refine lv_bipush (v := 57) hx hb dX10_scanNumber_124 (by decide) ?_
      replace h := ob h; obtain ⟨cs_9, hv_9, h⟩ := h
      refine ast0 hx hb hK hP hD hS rfl hv_9 dX10_scanNumber_126 (fun H locs hP hD hS => ?_)
      exact B_127 cs_9 h _ _ _ hP hD hS (lv_sub hl [] rfl)
  have L_10 : ∀ (lf_10 : Nat), ∀ (cs1 : CS) (u0 : Nat) (u1 : Int32) (u2 : Int64), c_X10_scanNumber_L10 F lf_10 cs1 u0 u1 u2 = some cs9 → ∀ (H : Heap) (locs : List Loc) (ls : Array Slot), va_P (dC, dI) vwCl (cW cB cI cJ cZ cS cO b cs1) H → va_D A (cW cB cI cJ cZ cS cO b cs1) → va_S A s.heap H locs → lv_has ls 5 [(0, .ref (b + u0)), (1, .int u1), (2, .long u2)] → W p l e (headSpec (wsOf yX10_scanNumber cX10_scanNumber 5 none) ({ frames := 1, cells := 0, slots := 0, locals := 60 * (1) } : Room)).room s m ([.ref (b + x0), .int x1] : List Value).toArray below meth c H locs 0 0 (MQ below (va_Qv (fun (_ : Unit) => True) (fun _ t_ => va_P (dC, dI) vwCl (cW cB cI cJ cZ cS cO b cs9) t_.heap ∧ va_D A (cW cB cI cJ cZ cS cO b cs9)) A) ([.ref (b + x0), .int x1] : List Value).toArray s 0 0 A) (F0 m 10 ls []) := by
    intro lf_10
    induction lf_10 with
    | zero => intro cs1 u0 u1 u2 h; cases (show (none : Option CS) = _ from h)
    | succ lf_10 ih_10 =>
      have B_85 : ∀ (cs1 : CS) (u0 : Nat) (u1 : Int32) (u2 : Int64), c_X10_scanNumber_b85 F (c_X10_scanNumber_L10 F lf_10) cs1 u0 u1 u2 = some cs9 → ∀ (H : Heap) (locs : List Loc) (ls : Array Slot), va_P (dC, dI) vwCl (cW cB cI cJ cZ cS cO b cs1) H → va_D A (cW cB cI cJ cZ cS cO b cs1) → va_S A s.heap H locs → lv_has ls 5 [(0, .ref (b + u0)), (1, .int u1), (2, .long u2)] → W p l e (headSpec (wsOf yX10_scanNumber cX10_scanNumber 5 none) ({ frames := 1, cells := 0, slots := 0, locals := 60 * (1) } : Room)).room s m ([.ref (b + x0), .int x1] : List Value).toArray below meth c H locs 0 0 (MQ below (va_Qv (fun (_ : Unit) => True) (fun _ t_ => va_P (dC, dI) vwCl (cW cB cI cJ cZ cS cO b cs9) t_.heap ∧ va_D A (cW cB cI cJ cZ cS cO b cs9)) A) ([.ref (b + x0), .int x1] : List Value).toArray s 0 0 A) (F0 m 85 ls []) := by
        intro cs1 u0 u1 u2 h H locs ls hP hD hS hl
        unfold c_X10_scanNumber_b85 at h
        refine lv_aload_n hx hb dX10_scanNumber_85 rfl (lv_at hl 0 rfl) ?_
        refine lv_dup hx hb dX10_scanNumber_86 rfl ?_
        replace h := ob h; obtain ⟨v_10, hv_10, h⟩ := h
        refine fg_X10_57 hx hb hts hown hK hP hv_10 dX10_scanNumber_87 ?_
        refine lv_iconst (v := 1) hx hb dX10_scanNumber_90 (by decide) ?_
        refine lv_iadd hx hb dX10_scanNumber_91 ?_
        replace h := ob h; obtain ⟨cs_11, hv_11, h⟩ := h
        refine fp_X10_57 hx hb hts hown hK hP hD hS hv_11 dX10_scanNumber_92 (fun H locs hP hD hS => ?_)
        refine lv_goto (tgt := 10) hx hb dX10_scanNumber_95 (by decide) ?_
        exact ih_10 cs_11 u0 u1 u2 h _ _ _ hP hD hS (lv_sub hl [0, 1, 2] rfl)
      intro cs1 u0 u1 u2 h H locs ls hP hD hS hl
      rw [c_X10_scanNumber_L10] at h
      refine lv_aload_n hx hb dX10_scanNumber_10 rfl (lv_at hl 0 rfl) ?_
      replace h := ob h; obtain ⟨v_12, hv_12, h⟩ := h
      refine fg_X10_57 hx hb hts hown hK hP hv_12 dX10_scanNumber_11 ?_
      refine lv_aload_n hx hb dX10_scanNumber_14 rfl (lv_at hl 0 rfl) ?_
      replace h := ob h; obtain ⟨v_13, hv_13, h⟩ := h
      refine fg_X10_53 hx hb hts hown hK hP hv_13 dX10_scanNumber_15 ?_
      refine lv_icmp_ge (tgt := 98) hx hb dX10_scanNumber_18 (by decide) (fun c_14 => ?_) (fun c_14 => ?_)
      · skip
        replace h := (if_pos c_14).symm.trans h
        exact B_98 cs1 u0 u1 u2 h _ _ _ hP hD hS (lv_sub hl [0, 1, 2] rfl)
      · skip
        replace h := (if_neg c_14).symm.trans h
        refine lv_aload_n hx hb dX10_scanNumber_21 rfl (lv_at hl 0 rfl) ?_
        refine lv_aload_n hx hb dX10_scanNumber_22 rfl (lv_at hl 0 rfl) ?_
        replace h := ob h; obtain ⟨v_15, hv_15, h⟩ := h
        refine fg_X10_57 hx hb hts hown hK hP hv_15 dX10_scanNumber_23 ?_
        replace h := ob h; obtain ⟨w_17, hw_17, h⟩ := h
        replace h := ob h; obtain ⟨v_16, hv_16, h⟩ := h
        refine ccI (As := [.int v_15]) hx hb hml hts hown hK hP hD hS hA hZ (X := 11) (by decide) rfl (ckE_some hw_17) (sc_X10_byteAt l dC dI cB cI cJ cZ cS cO b K V fz F cs1 u0 v_15 v_16 hv_16) (cw_X10_X10_byteAt hts (fr := 0) (Nat.le_of_ble_eq_true rfl) (Nat.le_of_ble_eq_true rfl)) rfl hl.1 (Nat.le_of_ble_eq_true rfl) ⟨Nat.zero_le _, Nat.zero_le _⟩ dX10_scanNumber_26 (fun H locs hP hD hS => ?_)
        replace h := ob h; obtain ⟨v_18, hv_18, h⟩ := h
        refine ccSI (As := [.int v_16]) hx hb hml hts hown hK hP hD hS hA hZ (sc_X10_isDigit l dC dI cB cI cJ cZ cS cO b K V fz F cs1 v_16 v_18 hv_18) (cw_X10_X10_isDigit hts (fr := 0) (Nat.le_of_ble_eq_true rfl) (Nat.le_of_ble_eq_true rfl)) rfl hl.1 (Nat.le_of_ble_eq_true rfl) ⟨Nat.zero_le _, Nat.zero_le _⟩ dX10_scanNumber_29 (fun H locs hP hD hS => ?_)
        refine lv_if_eq (tgt := 98) hx hb dX10_scanNumber_32 (by decide) (fun c_19 => ?_) (fun c_19 => ?_)
        · skip
          replace h := (if_pos c_19).symm.trans h
          exact B_98 cs1 u0 u1 u2 h _ _ _ hP hD hS (lv_sub hl [0, 1, 2] rfl)
        · skip
          replace h := (if_neg c_19).symm.trans h
          refine lv_aload_n hx hb dX10_scanNumber_35 rfl (lv_at hl 0 rfl) ?_
          refine lv_aload_n hx hb dX10_scanNumber_36 rfl (lv_at hl 0 rfl) ?_
          replace h := ob h; obtain ⟨v_20, hv_20, h⟩ := h
          refine fg_X10_57 hx hb hts hown hK hP hv_20 dX10_scanNumber_37 ?_
          replace h := ob h; obtain ⟨w_22, hw_22, h⟩ := h
          replace h := ob h; obtain ⟨v_21, hv_21, h⟩ := h
          refine ccI (As := [.int v_20]) hx hb hml hts hown hK hP hD hS hA hZ (X := 11) (by decide) rfl (ckE_some hw_22) (sc_X10_byteAt l dC dI cB cI cJ cZ cS cO b K V fz F cs1 u0 v_20 v_21 hv_21) (cw_X10_X10_byteAt hts (fr := 0) (Nat.le_of_ble_eq_true rfl) (Nat.le_of_ble_eq_true rfl)) rfl hl.1 (Nat.le_of_ble_eq_true rfl) ⟨Nat.zero_le _, Nat.zero_le _⟩ dX10_scanNumber_40 (fun H locs hP hD hS => ?_)
          refine lv_bipush (v := 48) hx hb dX10_scanNumber_43 (by decide) ?_
          refine lv_isub hx hb dX10_scanNumber_45 ?_
          refine lv_istore (lv' := [(4, .int (v_21 - 48)), (0, .ref (b + u0)), (1, .int u1), (2, .long u2)]) hx hb dX10_scanNumber_46 hl (by decide) rfl (fun ls hl => ?_)
          refine lv_lload_n hx hb dX10_scanNumber_48 rfl (lv_at hl 3 rfl) ?_
          refine lv_ldc2 hx hb hown (hts _ (List.mem_cons_of_mem _ kw_538)) dX10_scanNumber_49 ?_
          refine lv_iload hx hb dX10_scanNumber_52 (lv_at hl 0 rfl) ?_
          refine lv_i2l hx hb dX10_scanNumber_54 rfl ?_
          refine lv_lsub hx hb dX10_scanNumber_55 ?_
          refine lv_ldc2 hx hb hown (hts _ (List.mem_cons_of_mem _ kw_539)) dX10_scanNumber_56 ?_
          replace h := ob h; obtain ⟨w_23, hw_23, h⟩ := h
          refine lv_ldiv hx hb dX10_scanNumber_59 (ckD_some hw_23) ?_
          refine W.lcmp hx hb dX10_scanNumber_60 ?_
          refine lv_if_le (tgt := 75) hx hb dX10_scanNumber_61 (by decide) (fun c_24 => ?_) (fun c_24 => ?_)
          · skip
            have c_24 : u2 ≤ (((9223372036854775807) - ((v_21 - 48 : Int32).toInt64)) / (10)) := (lg_cmp_le _ _).mp c_24
            replace h := (if_pos c_24).symm.trans h
            refine lv_lload_n hx hb dX10_scanNumber_75 rfl (lv_at hl 3 rfl) ?_
            refine lv_ldc2 hx hb hown (hts _ (List.mem_cons_of_mem _ kw_539)) dX10_scanNumber_76 ?_
            refine lv_lmul hx hb dX10_scanNumber_79 ?_
            refine lv_iload hx hb dX10_scanNumber_80 (lv_at hl 0 rfl) ?_
            refine lv_i2l hx hb dX10_scanNumber_82 rfl ?_
            refine lv_ladd hx hb dX10_scanNumber_83 ?_
            refine lv_lstore_n (lv' := [(2, .long ((u2 * (10)) + ((v_21 - 48 : Int32).toInt64))), (4, .int (v_21 - 48)), (0, .ref (b + u0)), (1, .int u1)]) hx hb dX10_scanNumber_84 rfl hl (by decide) rfl (fun ls hl => ?_)
            exact B_85 cs1 u0 u1 ((u2 * (10)) + ((v_21 - 48 : Int32).toInt64)) h _ _ _ hP hD hS (lv_sub hl [2, 3, 0] rfl)
          · skip
            have c_24 : ¬ (u2 ≤ (((9223372036854775807) - ((v_21 - 48 : Int32).toInt64)) / (10))) := fun h9 => c_24 ((lg_cmp_le _ _).mpr h9)
            replace h := (if_neg c_24).symm.trans h
            refine lv_aload_n hx hb dX10_scanNumber_64 rfl (lv_at hl 1 rfl) ?_
            replace h := ob h; obtain ⟨v_25, hv_25, h⟩ := h
            refine fg_X10_9 hx hb hts hown hK hP hv_25 dX10_scanNumber_65 ?_
            refine lv_iload_n hx hb dX10_scanNumber_68 rfl (lv_at hl 2 rfl) ?_
            refine lv_bipush (v := 57) hx hb dX10_scanNumber_69 (by decide) ?_
            replace h := ob h; obtain ⟨cs_26, hv_26, h⟩ := h
            refine ast0 hx hb hK hP hD hS rfl hv_26 dX10_scanNumber_71 (fun H locs hP hD hS => ?_)
            refine lv_goto (tgt := 85) hx hb dX10_scanNumber_72 (by decide) ?_
            exact B_85 cs_26 u0 u1 u2 h _ _ _ hP hD hS (lv_sub hl [1, 2, 3] rfl)
  have h := hf
  unfold c_X10_scanNumber at h
  refine lv_lconst (v := 0) hx hb dX10_scanNumber_0 (by decide) ?_
  refine lv_lstore_n (lv' := [(2, .long 0), (0, .ref (b + x0)), (1, .int x1)]) hx hb dX10_scanNumber_1 rfl hl (by decide) rfl (fun ls hl => ?_)
  refine lv_aload_n hx hb dX10_scanNumber_2 rfl (lv_at hl 1 rfl) ?_
  replace h := ob h; obtain ⟨v_27, hv_27, h⟩ := h
  refine fg_X10_9 hx hb hts hown hK hP hv_27 dX10_scanNumber_3 ?_
  refine lv_iload_n hx hb dX10_scanNumber_6 rfl (lv_at hl 2 rfl) ?_
  refine lv_bipush (v := 40) hx hb dX10_scanNumber_7 (by decide) ?_
  replace h := ob h; obtain ⟨cs_28, hv_28, h⟩ := h
  refine ast0 hx hb hK hP hD hS rfl hv_28 dX10_scanNumber_9 (fun H locs hP hD hS => ?_)
  exact L_10 F cs_28 x0 x1 0 h _ _ _ hP hD hS (lv_sub hl [1, 2, 0] rfl)
theorem dX10_longerSign_0 : decode cX10_longerSign 0 = .ok (.iload_n 0, 1) := by decide +kernel
theorem dX10_longerSign_1 : decode cX10_longerSign 1 = .ok (.bipush 51, 2) := by decide +kernel
theorem dX10_longerSign_3 : decode cX10_longerSign 3 = .ok (.if_icmp .ne 12, 3) := by decide +kernel
theorem dX10_longerSign_6 : decode cX10_longerSign 6 = .ok (.iload_n 1, 1) := by decide +kernel
theorem dX10_longerSign_7 : decode cX10_longerSign 7 = .ok (.bipush 62, 2) := by decide +kernel
theorem dX10_longerSign_9 : decode cX10_longerSign 9 = .ok (.if_icmp .ne 6, 3) := by decide +kernel
theorem dX10_longerSign_12 : decode cX10_longerSign 12 = .ok (.bipush 53, 2) := by decide +kernel
theorem dX10_longerSign_14 : decode cX10_longerSign 14 = .ok (.ireturn, 1) := by decide +kernel
theorem dX10_longerSign_15 : decode cX10_longerSign 15 = .ok (.iload_n 0, 1) := by decide +kernel
theorem dX10_longerSign_16 : decode cX10_longerSign 16 = .ok (.bipush 51, 2) := by decide +kernel
theorem dX10_longerSign_18 : decode cX10_longerSign 18 = .ok (.if_icmp .ne 12, 3) := by decide +kernel
theorem dX10_longerSign_21 : decode cX10_longerSign 21 = .ok (.iload_n 1, 1) := by decide +kernel
theorem dX10_longerSign_22 : decode cX10_longerSign 22 = .ok (.bipush 61, 2) := by decide +kernel
theorem dX10_longerSign_24 : decode cX10_longerSign 24 = .ok (.if_icmp .ne 6, 3) := by decide +kernel
theorem dX10_longerSign_27 : decode cX10_longerSign 27 = .ok (.bipush 54, 2) := by decide +kernel
theorem dX10_longerSign_29 : decode cX10_longerSign 29 = .ok (.ireturn, 1) := by decide +kernel
theorem dX10_longerSign_30 : decode cX10_longerSign 30 = .ok (.iload_n 0, 1) := by decide +kernel
theorem dX10_longerSign_31 : decode cX10_longerSign 31 = .ok (.bipush 52, 2) := by decide +kernel
theorem dX10_longerSign_33 : decode cX10_longerSign 33 = .ok (.if_icmp .ne 14, 3) := by decide +kernel
theorem dX10_longerSign_36 : decode cX10_longerSign 36 = .ok (.iload_n 1, 1) := by decide +kernel
theorem dX10_longerSign_37 : decode cX10_longerSign 37 = .ok (.bipush 61, 2) := by decide +kernel
theorem dX10_longerSign_39 : decode cX10_longerSign 39 = .ok (.if_icmp .ne 8, 3) := by decide +kernel
theorem dX10_longerSign_42 : decode cX10_longerSign 42 = .ok (.bipush 55, 2) := by decide +kernel
theorem dX10_longerSign_44 : decode cX10_longerSign 44 = .ok (.goto 4, 3) := by decide +kernel
theorem dX10_longerSign_47 : decode cX10_longerSign 47 = .ok (.iload_n 0, 1) := by decide +kernel
theorem dX10_longerSign_48 : decode cX10_longerSign 48 = .ok (.ireturn, 1) := by decide +kernel
def c_X10_longerSign_b48 (F : Nat) (cs : CS) (y0 : Int32) : Option Int32 := some y0
def c_X10_longerSign_b47 (F : Nat) (cs : CS) (u0 : Int32) : Option Int32 := c_X10_longerSign_b48 F cs u0
def c_X10_longerSign_b30 (F : Nat) (cs : CS) (u0 : Int32) (u1 : Int32) : Option Int32 := if u0 = 52 then (if u1 = 61 then (c_X10_longerSign_b48 F cs 55) else (c_X10_longerSign_b47 F cs u0)) else (c_X10_longerSign_b47 F cs u0)
def c_X10_longerSign_b15 (F : Nat) (cs : CS) (u0 : Int32) (u1 : Int32) : Option Int32 := if u0 = 51 then (if u1 = 61 then (some 54) else (c_X10_longerSign_b30 F cs u0 u1)) else (c_X10_longerSign_b30 F cs u0 u1)
def c_X10_longerSign (F : Nat) (cs : CS) (x0 : Int32) (x1 : Int32) : Option Int32 := if x0 = 51 then (if x1 = 62 then (some 53) else (c_X10_longerSign_b15 F cs x0 x1)) else (c_X10_longerSign_b15 F cs x0 x1)
theorem cw_X10_X10_longerSign {R : Room} {s : State} {args : Array Value} {y0 : MethodName} {c0 : ByteArray} {n0 : Nat} {r0 : Option FieldType} (hts : ∀ w ∈ wsOf y0 c0 n0 r0, w.before args s = true) {fr : Nat} (h1 : fr + 1 ≤ R.frames) (h2 : 8 + (2 + 11) + 60 * fr ≤ R.locals) : CallB R s args RX10 104 yX10_longerSign cX10_longerSign 2 (some .int) (wsOf yX10_longerSign cX10_longerSign 2 (some .int)) ({ frames := fr, cells := 0, slots := 0, locals := 60 * fr } : Room) 0 0 2 ∧ (Cond.static yX10_longerSign).before args s = true := ⟨callB_of 2 hts (gd_all (in_I kc_X10_longerSign)) rfl rfl rfl (hts _ (List.mem_cons_of_mem _ kw_183)) (hts _ (List.mem_cons_of_mem _ kw_600)) (by decide +kernel) ⟨h1, h2⟩, hts _ (List.mem_cons_of_mem _ kw_601)⟩
set_option maxHeartbeats 4000000 in
set_option maxRecDepth 100000 in
theorem sc_X10_longerSign (l : Launch) (dC : Nat → ClassId) (dI : Nat → Nat → Nat) (cB cI cJ cZ cS cO : ClassId) (b : Nat) (K V : Nat → Nat) (fz : Value) (F : Nat) (cs : CS) (x0 : Int32) (x1 : Int32) (r9 : Int32) (hf : c_X10_longerSign F cs x0 x1 = some r9) : ocI l dC dI cB cI cJ cZ cS cO b K V fz yX10_longerSign (wsOf yX10_longerSign cX10_longerSign 2 (some .int)) (0) [.int x0, .int x1] cs cs r9 := by
  intro sz
  refine Met.ofW (cc := cX10_longerSign) (maxL := 2) (ret := (some .int)) (by decide) rfl ?_
  intro p e s m args below meth c s₁ B hml hv
  obtain ⟨rfl, hsz, hP, hK, hD0, hZ⟩ := hv
  have hx := B.exec
  have hb := B.bytes
  have hr := B.returns
  have hts := atoms_spec (ws := (wsOf yX10_longerSign cX10_longerSign 2 (some .int))) B.pre
  have hown : s.vm.findClass RX10 = some m.cls := findClass_of_methodNamed B.named
  have hlocks := B.notSynchronized
  subst hsz
  have hD := hD0.self (sz := s.heap.size)
  generalize hAe : va_A (cW cB cI cJ cZ cS cO b cs) s.heap.size = A at hD hZ ⊢
  have hA : ∀ q : Nat, s.heap.size ≤ q → A q := fun q h => by rw [← hAe]; exact Or.inr h
  have hS : va_S A s.heap s.heap [] := va_S.rf
  have hl := lv_entry ([.int x0, .int x1]) (n := 2) (Nat.le_of_ble_eq_true rfl)
  rw [lg_entry_eq]
  generalize (lg_sl ([.int x0, .int x1]) ++ List.replicate (2 - (lg_sl ([.int x0, .int x1])).length) Slot.unset).toArray = ls at hl ⊢
  have hl : lv_has ls 2 [(0, .int x0), (1, .int x1)] := hl
  have B_48 : ∀ (y0 : Int32), c_X10_longerSign_b48 F cs y0 = some r9 → ∀ (H : Heap) (locs : List Loc) (ls : Array Slot), va_P (dC, dI) vwCl (cW cB cI cJ cZ cS cO b cs) H → va_D A (cW cB cI cJ cZ cS cO b cs) → va_S A s.heap H locs → lv_has ls 2 [] → W p l e (headSpec (wsOf yX10_longerSign cX10_longerSign 2 (some .int)) ({ frames := 0, cells := 0, slots := 0, locals := 60 * (0) } : Room)).room s m ([.int x0, .int x1] : List Value).toArray below meth c H locs 0 0 (MQ below (va_Qi (fun (x : Int32) (_ : Unit) => x = r9) (fun _ t_ => va_P (dC, dI) vwCl (cW cB cI cJ cZ cS cO b cs) t_.heap ∧ va_D A (cW cB cI cJ cZ cS cO b cs)) A) ([.int x0, .int x1] : List Value).toArray s 0 0 A) (F0 m 48 ls [.int y0]) := by
    intro y0 h H locs ls hP hD hS hl
    unfold c_X10_longerSign_b48 at h
    have e2 := Option.some.inj h
    exact W.iret (v := y0) hx hb hr (fun t_ ht hW => ⟨⟨y0, (), rfl, e2, by rw [ht]; exact hP, hD⟩, hS.F ht⟩) hS.2.2 dX10_longerSign_48
  have B_47 : ∀ (u0 : Int32), c_X10_longerSign_b47 F cs u0 = some r9 → ∀ (H : Heap) (locs : List Loc) (ls : Array Slot), va_P (dC, dI) vwCl (cW cB cI cJ cZ cS cO b cs) H → va_D A (cW cB cI cJ cZ cS cO b cs) → va_S A s.heap H locs → lv_has ls 2 [(0, .int u0)] → W p l e (headSpec (wsOf yX10_longerSign cX10_longerSign 2 (some .int)) ({ frames := 0, cells := 0, slots := 0, locals := 60 * (0) } : Room)).room s m ([.int x0, .int x1] : List Value).toArray below meth c H locs 0 0 (MQ below (va_Qi (fun (x : Int32) (_ : Unit) => x = r9) (fun _ t_ => va_P (dC, dI) vwCl (cW cB cI cJ cZ cS cO b cs) t_.heap ∧ va_D A (cW cB cI cJ cZ cS cO b cs)) A) ([.int x0, .int x1] : List Value).toArray s 0 0 A) (F0 m 47 ls []) := by
    intro u0 h H locs ls hP hD hS hl
    unfold c_X10_longerSign_b47 at h
    refine lv_iload_n hx hb dX10_longerSign_47 rfl (lv_at hl 0 rfl) ?_
    exact B_48 u0 h _ _ _ hP hD hS (lv_sub hl [] rfl)
  have B_30 : ∀ (u0 : Int32) (u1 : Int32), c_X10_longerSign_b30 F cs u0 u1 = some r9 → ∀ (H : Heap) (locs : List Loc) (ls : Array Slot), va_P (dC, dI) vwCl (cW cB cI cJ cZ cS cO b cs) H → va_D A (cW cB cI cJ cZ cS cO b cs) → va_S A s.heap H locs → lv_has ls 2 [(0, .int u0), (1, .int u1)] → W p l e (headSpec (wsOf yX10_longerSign cX10_longerSign 2 (some .int)) ({ frames := 0, cells := 0, slots := 0, locals := 60 * (0) } : Room)).room s m ([.int x0, .int x1] : List Value).toArray below meth c H locs 0 0 (MQ below (va_Qi (fun (x : Int32) (_ : Unit) => x = r9) (fun _ t_ => va_P (dC, dI) vwCl (cW cB cI cJ cZ cS cO b cs) t_.heap ∧ va_D A (cW cB cI cJ cZ cS cO b cs)) A) ([.int x0, .int x1] : List Value).toArray s 0 0 A) (F0 m 30 ls []) := by
    intro u0 u1 h H locs ls hP hD hS hl
    unfold c_X10_longerSign_b30 at h
    refine lv_iload_n hx hb dX10_longerSign_30 rfl (lv_at hl 0 rfl) ?_
    refine lv_bipush (v := 52) hx hb dX10_longerSign_31 (by decide) ?_
    refine lv_icmp_ne (tgt := 47) hx hb dX10_longerSign_33 (by decide) (fun c_1 => ?_) (fun c_1 => ?_)
    · skip
      replace h := (if_neg c_1).symm.trans h
      exact B_47 u0 h _ _ _ hP hD hS (lv_sub hl [0] rfl)
    · skip
      replace h := (if_pos c_1).symm.trans h
      refine lv_iload_n hx hb dX10_longerSign_36 rfl (lv_at hl 1 rfl) ?_
      refine lv_bipush (v := 61) hx hb dX10_longerSign_37 (by decide) ?_
      refine lv_icmp_ne (tgt := 47) hx hb dX10_longerSign_39 (by decide) (fun c_2 => ?_) (fun c_2 => ?_)
      · skip
        replace h := (if_neg c_2).symm.trans h
        exact B_47 u0 h _ _ _ hP hD hS (lv_sub hl [0] rfl)
      · skip
        replace h := (if_pos c_2).symm.trans h
        refine lv_bipush (v := 55) hx hb dX10_longerSign_42 (by decide) ?_
        refine lv_goto (tgt := 48) hx hb dX10_longerSign_44 (by decide) ?_
        exact B_48 55 h _ _ _ hP hD hS (lv_sub hl [] rfl)
  have B_15 : ∀ (u0 : Int32) (u1 : Int32), c_X10_longerSign_b15 F cs u0 u1 = some r9 → ∀ (H : Heap) (locs : List Loc) (ls : Array Slot), va_P (dC, dI) vwCl (cW cB cI cJ cZ cS cO b cs) H → va_D A (cW cB cI cJ cZ cS cO b cs) → va_S A s.heap H locs → lv_has ls 2 [(0, .int u0), (1, .int u1)] → W p l e (headSpec (wsOf yX10_longerSign cX10_longerSign 2 (some .int)) ({ frames := 0, cells := 0, slots := 0, locals := 60 * (0) } : Room)).room s m ([.int x0, .int x1] : List Value).toArray below meth c H locs 0 0 (MQ below (va_Qi (fun (x : Int32) (_ : Unit) => x = r9) (fun _ t_ => va_P (dC, dI) vwCl (cW cB cI cJ cZ cS cO b cs) t_.heap ∧ va_D A (cW cB cI cJ cZ cS cO b cs)) A) ([.int x0, .int x1] : List Value).toArray s 0 0 A) (F0 m 15 ls []) := by
    intro u0 u1 h H locs ls hP hD hS hl
    unfold c_X10_longerSign_b15 at h
    refine lv_iload_n hx hb dX10_longerSign_15 rfl (lv_at hl 0 rfl) ?_
    refine lv_bipush (v := 51) hx hb dX10_longerSign_16 (by decide) ?_
    refine lv_icmp_ne (tgt := 30) hx hb dX10_longerSign_18 (by decide) (fun c_3 => ?_) (fun c_3 => ?_)
    · skip
      replace h := (if_neg c_3).symm.trans h
      exact B_30 u0 u1 h _ _ _ hP hD hS (lv_sub hl [0, 1] rfl)
    · skip
      replace h := (if_pos c_3).symm.trans h
      refine lv_iload_n hx hb dX10_longerSign_21 rfl (lv_at hl 1 rfl) ?_
      refine lv_bipush (v := 61) hx hb dX10_longerSign_22 (by decide) ?_
      refine lv_icmp_ne (tgt := 30) hx hb dX10_longerSign_24 (by decide) (fun c_4 => ?_) (fun c_4 => ?_)
      · skip
        replace h := (if_neg c_4).symm.trans h
        exact B_30 u0 u1 h _ _ _ hP hD hS (lv_sub hl [0, 1] rfl)
      · skip
        replace h := (if_pos c_4).symm.trans h
        refine lv_bipush (v := 54) hx hb dX10_longerSign_27 (by decide) ?_
        have e2 := Option.some.inj h
        exact W.iret (v := 54) hx hb hr (fun t_ ht hW => ⟨⟨54, (), rfl, e2, by rw [ht]; exact hP, hD⟩, hS.F ht⟩) hS.2.2 dX10_longerSign_29
  have h := hf
  unfold c_X10_longerSign at h
  refine lv_iload_n hx hb dX10_longerSign_0 rfl (lv_at hl 0 rfl) ?_
  refine lv_bipush (v := 51) hx hb dX10_longerSign_1 (by decide) ?_
  refine lv_icmp_ne (tgt := 15) hx hb dX10_longerSign_3 (by decide) (fun c_5 => ?_) (fun c_5 => ?_)
  · skip
    replace h := (if_neg c_5).symm.trans h
    exact B_15 x0 x1 h _ _ _ hP hD hS (lv_sub hl [0, 1] rfl)
  · skip
    replace h := (if_pos c_5).symm.trans h
    refine lv_iload_n hx hb dX10_longerSign_6 rfl (lv_at hl 1 rfl) ?_
    refine lv_bipush (v := 62) hx hb dX10_longerSign_7 (by decide) ?_
    refine lv_icmp_ne (tgt := 15) hx hb dX10_longerSign_9 (by decide) (fun c_6 => ?_) (fun c_6 => ?_)
    · skip
      replace h := (if_neg c_6).symm.trans h
      exact B_15 x0 x1 h _ _ _ hP hD hS (lv_sub hl [0, 1] rfl)
    · skip
      replace h := (if_pos c_6).symm.trans h
      refine lv_bipush (v := 53) hx hb dX10_longerSign_12 (by decide) ?_
      have e2 := Option.some.inj h
      exact W.iret (v := 53) hx hb hr (fun t_ ht hW => ⟨⟨53, (), rfl, e2, by rw [ht]; exact hP, hD⟩, hS.F ht⟩) hS.2.2 dX10_longerSign_14
theorem dX10_scanSign_0 : decode cX10_scanSign 0 = .ok (.iload_n 1, 1) := by decide +kernel
theorem dX10_scanSign_1 : decode cX10_scanSign 1 = .ok (.ifCond .ge 7, 3) := by decide +kernel
theorem dX10_scanSign_4 : decode cX10_scanSign 4 = .ok (.iconst (-1), 1) := by decide +kernel
theorem dX10_scanSign_5 : decode cX10_scanSign 5 = .ok (.goto 10, 3) := by decide +kernel
theorem dX10_scanSign_8 : decode cX10_scanSign 8 = .ok (.ldc 99, 2) := by decide +kernel
theorem dX10_scanSign_10 : decode cX10_scanSign 10 = .ok (.iload_n 1, 1) := by decide +kernel
theorem dX10_scanSign_11 : decode cX10_scanSign 11 = .ok (.i2c, 1) := by decide +kernel
theorem dX10_scanSign_12 : decode cX10_scanSign 12 = .ok (.invokevirtual 101, 3) := by decide +kernel
theorem dX10_scanSign_15 : decode cX10_scanSign 15 = .ok (.istore_n 2, 1) := by decide +kernel
theorem dX10_scanSign_16 : decode cX10_scanSign 16 = .ok (.iload_n 2, 1) := by decide +kernel
theorem dX10_scanSign_17 : decode cX10_scanSign 17 = .ok (.ifCond .ge 8, 3) := by decide +kernel
theorem dX10_scanSign_20 : decode cX10_scanSign 20 = .ok (.bipush 57, 2) := by decide +kernel
theorem dX10_scanSign_22 : decode cX10_scanSign 22 = .ok (.goto 7, 3) := by decide +kernel
theorem dX10_scanSign_25 : decode cX10_scanSign 25 = .ok (.bipush 41, 2) := by decide +kernel
theorem dX10_scanSign_27 : decode cX10_scanSign 27 = .ok (.iload_n 2, 1) := by decide +kernel
theorem dX10_scanSign_28 : decode cX10_scanSign 28 = .ok (.iadd, 1) := by decide +kernel
theorem dX10_scanSign_29 : decode cX10_scanSign 29 = .ok (.istore_n 3, 1) := by decide +kernel
theorem dX10_scanSign_30 : decode cX10_scanSign 30 = .ok (.aload_n 0, 1) := by decide +kernel
theorem dX10_scanSign_31 : decode cX10_scanSign 31 = .ok (.dup, 1) := by decide +kernel
theorem dX10_scanSign_32 : decode cX10_scanSign 32 = .ok (.getfield 57, 3) := by decide +kernel
theorem dX10_scanSign_35 : decode cX10_scanSign 35 = .ok (.iconst 1, 1) := by decide +kernel
theorem dX10_scanSign_36 : decode cX10_scanSign 36 = .ok (.iadd, 1) := by decide +kernel
theorem dX10_scanSign_37 : decode cX10_scanSign 37 = .ok (.putfield 57, 3) := by decide +kernel
theorem dX10_scanSign_40 : decode cX10_scanSign 40 = .ok (.iload_n 3, 1) := by decide +kernel
theorem dX10_scanSign_41 : decode cX10_scanSign 41 = .ok (.aload_n 0, 1) := by decide +kernel
theorem dX10_scanSign_42 : decode cX10_scanSign 42 = .ok (.aload_n 0, 1) := by decide +kernel
theorem dX10_scanSign_43 : decode cX10_scanSign 43 = .ok (.getfield 57, 3) := by decide +kernel
theorem dX10_scanSign_46 : decode cX10_scanSign 46 = .ok (.invokevirtual 67, 3) := by decide +kernel
theorem dX10_scanSign_49 : decode cX10_scanSign 49 = .ok (.invokestatic 104, 3) := by decide +kernel
theorem dX10_scanSign_52 : decode cX10_scanSign 52 = .ok (.istore 4, 2) := by decide +kernel
theorem dX10_scanSign_54 : decode cX10_scanSign 54 = .ok (.iload 4, 2) := by decide +kernel
theorem dX10_scanSign_56 : decode cX10_scanSign 56 = .ok (.iload_n 3, 1) := by decide +kernel
theorem dX10_scanSign_57 : decode cX10_scanSign 57 = .ok (.if_icmp .ne 5, 3) := by decide +kernel
theorem dX10_scanSign_60 : decode cX10_scanSign 60 = .ok (.iload_n 3, 1) := by decide +kernel
theorem dX10_scanSign_61 : decode cX10_scanSign 61 = .ok (.ireturn, 1) := by decide +kernel
theorem dX10_scanSign_62 : decode cX10_scanSign 62 = .ok (.aload_n 0, 1) := by decide +kernel
theorem dX10_scanSign_63 : decode cX10_scanSign 63 = .ok (.dup, 1) := by decide +kernel
theorem dX10_scanSign_64 : decode cX10_scanSign 64 = .ok (.getfield 57, 3) := by decide +kernel
theorem dX10_scanSign_67 : decode cX10_scanSign 67 = .ok (.iconst 1, 1) := by decide +kernel
theorem dX10_scanSign_68 : decode cX10_scanSign 68 = .ok (.iadd, 1) := by decide +kernel
theorem dX10_scanSign_69 : decode cX10_scanSign 69 = .ok (.putfield 57, 3) := by decide +kernel
theorem dX10_scanSign_72 : decode cX10_scanSign 72 = .ok (.iload 4, 2) := by decide +kernel
theorem dX10_scanSign_74 : decode cX10_scanSign 74 = .ok (.ireturn, 1) := by decide +kernel
def c_X10_scanSign_b29 (F : Nat) (cs1 : CS) (u0 : Nat) (y0 : Int32) : Option (CS × Int32) := Option.bind (gI cs1 11 357 u0) fun v_1 => Option.bind (pI cs1 11 357 u0 (v_1 + 1)) fun cs_2 => Option.bind (gI cs_2 11 357 u0) fun v_3 => Option.bind (ckE cs_2 11 u0) fun _ => Option.bind (c_X10_byteAt F cs_2 u0 v_3) fun v_4 => Option.bind (c_X10_longerSign F cs_2 y0 v_4) fun v_6 => if v_6 = y0 then (some (cs_2, y0)) else (Option.bind (gI cs_2 11 357 u0) fun v_8 => Option.bind (pI cs_2 11 357 u0 (v_8 + 1)) fun cs_9 => some (cs_9, v_6))
def c_X10_scanSign_b15 (F : Nat) (cs1 : CS) (u0 : Nat) (y0 : Int32) : Option (CS × Int32) := if 0 ≤ y0 then (c_X10_scanSign_b29 F cs1 u0 (41 + y0)) else (c_X10_scanSign_b29 F cs1 u0 57)
def c_X10_scanSign (F : Nat) (cs : CS) (x0 : Nat) (x1 : Int32) : Option (CS × Int32) := if 0 ≤ x1 then (Option.bind (ixA 1 ((x1.toUInt32 % 65536).toInt32)) fun v_12 => c_X10_scanSign_b15 F cs x0 v_12) else (c_X10_scanSign_b15 F cs x0 (-1))
theorem cw_X10_X10_scanSign {R : Room} {s : State} {args : Array Value} {y0 : MethodName} {c0 : ByteArray} {n0 : Nat} {r0 : Option FieldType} (hts : ∀ w ∈ wsOf y0 c0 n0 r0, w.before args s = true) {fr : Nat} (h1 : fr + 1 ≤ R.frames) (h2 : 8 + (5 + 11) + 60 * fr ≤ R.locals) : CallW R s args RX10 RX10 83 yX10_scanSign cX10_scanSign 5 (some .int) (wsOf yX10_scanSign cX10_scanSign 5 (some .int)) ({ frames := fr, cells := 0, slots := 0, locals := 60 * fr } : Room) 0 0 1 := cwV 1 hts (gd_all (in_V kw_540 kw_542 kw_7 kw_183 kc_X10_scanSign)) rfl rfl rfl (by decide +kernel) ⟨h1, h2⟩
set_option maxHeartbeats 4000000 in
set_option maxRecDepth 100000 in
theorem sc_X10_scanSign (l : Launch) (dC : Nat → ClassId) (dI : Nat → Nat → Nat) (cB cI cJ cZ cS cO : ClassId) (b : Nat) (K V : Nat → Nat) (fz : Value) (F : Nat) (cs : CS) (x0 : Nat) (x1 : Int32) (cs9 : CS) (r9 : Int32) (hf : c_X10_scanSign F cs x0 x1 = some (cs9, r9)) : ocI l dC dI cB cI cJ cZ cS cO b K V fz yX10_scanSign (wsOf yX10_scanSign cX10_scanSign 5 (some .int)) (7) [.ref (b + x0), .int x1] cs cs9 r9 := by
  intro sz
  refine Met.ofW (cc := cX10_scanSign) (maxL := 5) (ret := (some .int)) (by decide) rfl ?_
  intro p e s m args below meth c s₁ B hml hv
  obtain ⟨rfl, hsz, hP, hK, hD0, hZ⟩ := hv
  have hx := B.exec
  have hb := B.bytes
  have hr := B.returns
  have hts := atoms_spec (ws := (wsOf yX10_scanSign cX10_scanSign 5 (some .int))) B.pre
  have hown : s.vm.findClass RX10 = some m.cls := findClass_of_methodNamed B.named
  have hlocks := B.notSynchronized
  subst hsz
  have hD := hD0.self (sz := s.heap.size)
  generalize hAe : va_A (cW cB cI cJ cZ cS cO b cs) s.heap.size = A at hD hZ ⊢
  have hA : ∀ q : Nat, s.heap.size ≤ q → A q := fun q h => by rw [← hAe]; exact Or.inr h
  have hS : va_S A s.heap s.heap [] := va_S.rf
  have hl := lv_entry ([.ref (b + x0), .int x1]) (n := 5) (Nat.le_of_ble_eq_true rfl)
  rw [lg_entry_eq]
  generalize (lg_sl ([.ref (b + x0), .int x1]) ++ List.replicate (5 - (lg_sl ([.ref (b + x0), .int x1])).length) Slot.unset).toArray = ls at hl ⊢
  have hl : lv_has ls 5 [(0, .ref (b + x0)), (1, .int x1)] := hl
  have B_29 : ∀ (cs1 : CS) (u0 : Nat) (y0 : Int32), c_X10_scanSign_b29 F cs1 u0 y0 = some (cs9, r9) → ∀ (H : Heap) (locs : List Loc) (ls : Array Slot), va_P (dC, dI) vwCl (cW cB cI cJ cZ cS cO b cs1) H → va_D A (cW cB cI cJ cZ cS cO b cs1) → va_S A s.heap H locs → lv_has ls 5 [(0, .ref (b + u0))] → W p l e (headSpec (wsOf yX10_scanSign cX10_scanSign 5 (some .int)) ({ frames := 7, cells := 0, slots := 0, locals := 60 * (7) } : Room)).room s m ([.ref (b + x0), .int x1] : List Value).toArray below meth c H locs 0 0 (MQ below (va_Qi (fun (x : Int32) (_ : Unit) => x = r9) (fun _ t_ => va_P (dC, dI) vwCl (cW cB cI cJ cZ cS cO b cs9) t_.heap ∧ va_D A (cW cB cI cJ cZ cS cO b cs9)) A) ([.ref (b + x0), .int x1] : List Value).toArray s 0 0 A) (F0 m 29 ls [.int y0]) := by
    intro cs1 u0 y0 h H locs ls hP hD hS hl
    unfold c_X10_scanSign_b29 at h
    refine lv_istore_n (lv' := [(3, .int y0), (0, .ref (b + u0))]) hx hb dX10_scanSign_29 rfl hl (by decide) rfl (fun ls hl => ?_)
    refine lv_aload_n hx hb dX10_scanSign_30 rfl (lv_at hl 1 rfl) ?_
    refine lv_dup hx hb dX10_scanSign_31 rfl ?_
    replace h := ob h; obtain ⟨v_1, hv_1, h⟩ := h
    refine fg_X10_57 hx hb hts hown hK hP hv_1 dX10_scanSign_32 ?_
    refine lv_iconst (v := 1) hx hb dX10_scanSign_35 (by decide) ?_
    refine lv_iadd hx hb dX10_scanSign_36 ?_
    replace h := ob h; obtain ⟨cs_2, hv_2, h⟩ := h
    refine fp_X10_57 hx hb hts hown hK hP hD hS hv_2 dX10_scanSign_37 (fun H locs hP hD hS => ?_)
    refine lv_iload_n hx hb dX10_scanSign_40 rfl (lv_at hl 0 rfl) ?_
    refine lv_aload_n hx hb dX10_scanSign_41 rfl (lv_at hl 1 rfl) ?_
    refine lv_aload_n hx hb dX10_scanSign_42 rfl (lv_at hl 1 rfl) ?_
    replace h := ob h; obtain ⟨v_3, hv_3, h⟩ := h
    refine fg_X10_57 hx hb hts hown hK hP hv_3 dX10_scanSign_43 ?_
    replace h := ob h; obtain ⟨w_5, hw_5, h⟩ := h
    replace h := ob h; obtain ⟨v_4, hv_4, h⟩ := h
    refine ccI (As := [.int v_3]) hx hb hml hts hown hK hP hD hS hA hZ (X := 11) (by decide) rfl (ckE_some hw_5) (sc_X10_byteAt l dC dI cB cI cJ cZ cS cO b K V fz F cs_2 u0 v_3 v_4 hv_4) (cw_X10_X10_byteAt hts (fr := 0) (Nat.le_of_ble_eq_true rfl) (Nat.le_of_ble_eq_true rfl)) rfl hl.1 (Nat.le_of_ble_eq_true rfl) ⟨Nat.zero_le _, Nat.zero_le _⟩ dX10_scanSign_46 (fun H locs hP hD hS => ?_)
    replace h := ob h; obtain ⟨v_6, hv_6, h⟩ := h
    refine ccSI (As := [.int y0, .int v_4]) hx hb hml hts hown hK hP hD hS hA hZ (sc_X10_longerSign l dC dI cB cI cJ cZ cS cO b K V fz F cs_2 y0 v_4 v_6 hv_6) (cw_X10_X10_longerSign hts (fr := 0) (Nat.le_of_ble_eq_true rfl) (Nat.le_of_ble_eq_true rfl)) rfl hl.1 (Nat.le_of_ble_eq_true rfl) ⟨Nat.zero_le _, Nat.zero_le _⟩ dX10_scanSign_49 (fun H locs hP hD hS => ?_)
    refine lv_istore (lv' := [(4, .int v_6), (3, .int y0), (0, .ref (b + u0))]) hx hb dX10_scanSign_52 hl (by decide) rfl (fun ls hl => ?_)
    refine lv_iload hx hb dX10_scanSign_54 (lv_at hl 0 rfl) ?_
    refine lv_iload_n hx hb dX10_scanSign_56 rfl (lv_at hl 1 rfl) ?_
    refine lv_icmp_ne (tgt := 62) hx hb dX10_scanSign_57 (by decide) (fun c_7 => ?_) (fun c_7 => ?_)
    · skip
      replace h := (if_neg c_7).symm.trans h
      refine lv_aload_n hx hb dX10_scanSign_62 rfl (lv_at hl 2 rfl) ?_
      refine lv_dup hx hb dX10_scanSign_63 rfl ?_
      replace h := ob h; obtain ⟨v_8, hv_8, h⟩ := h
      refine fg_X10_57 hx hb hts hown hK hP hv_8 dX10_scanSign_64 ?_
      refine lv_iconst (v := 1) hx hb dX10_scanSign_67 (by decide) ?_
      refine lv_iadd hx hb dX10_scanSign_68 ?_
      replace h := ob h; obtain ⟨cs_9, hv_9, h⟩ := h
      refine fp_X10_57 hx hb hts hown hK hP hD hS hv_9 dX10_scanSign_69 (fun H locs hP hD hS => ?_)
      refine lv_iload hx hb dX10_scanSign_72 (lv_at hl 0 rfl) ?_
      obtain ⟨e1, e2⟩ := Prod.mk.inj (Option.some.inj h)
      rw [e1] at hP hD
      exact W.iret (v := v_6) hx hb hr (fun t_ ht hW => ⟨⟨v_6, (), rfl, e2, by rw [ht]; exact hP, hD⟩, hS.F ht⟩) hS.2.2 dX10_scanSign_74
    · skip
      replace h := (if_pos c_7).symm.trans h
      refine lv_iload_n hx hb dX10_scanSign_60 rfl (lv_at hl 1 rfl) ?_
      obtain ⟨e1, e2⟩ := Prod.mk.inj (Option.some.inj h)
      rw [e1] at hP hD
      exact W.iret (v := y0) hx hb hr (fun t_ ht hW => ⟨⟨y0, (), rfl, e2, by rw [ht]; exact hP, hD⟩, hS.F ht⟩) hS.2.2 dX10_scanSign_61
  have B_15 : ∀ (cs1 : CS) (u0 : Nat) (y0 : Int32), c_X10_scanSign_b15 F cs1 u0 y0 = some (cs9, r9) → ∀ (H : Heap) (locs : List Loc) (ls : Array Slot), va_P (dC, dI) vwCl (cW cB cI cJ cZ cS cO b cs1) H → va_D A (cW cB cI cJ cZ cS cO b cs1) → va_S A s.heap H locs → lv_has ls 5 [(0, .ref (b + u0))] → W p l e (headSpec (wsOf yX10_scanSign cX10_scanSign 5 (some .int)) ({ frames := 7, cells := 0, slots := 0, locals := 60 * (7) } : Room)).room s m ([.ref (b + x0), .int x1] : List Value).toArray below meth c H locs 0 0 (MQ below (va_Qi (fun (x : Int32) (_ : Unit) => x = r9) (fun _ t_ => va_P (dC, dI) vwCl (cW cB cI cJ cZ cS cO b cs9) t_.heap ∧ va_D A (cW cB cI cJ cZ cS cO b cs9)) A) ([.ref (b + x0), .int x1] : List Value).toArray s 0 0 A) (F0 m 15 ls [.int y0]) := by
    intro cs1 u0 y0 h H locs ls hP hD hS hl
    unfold c_X10_scanSign_b15 at h
    refine lv_istore_n (lv' := [(2, .int y0), (0, .ref (b + u0))]) hx hb dX10_scanSign_15 rfl hl (by decide) rfl (fun ls hl => ?_)
    refine lv_iload_n hx hb dX10_scanSign_16 rfl (lv_at hl 0 rfl) ?_
    refine lv_if_ge (tgt := 25) hx hb dX10_scanSign_17 (by decide) (fun c_10 => ?_) (fun c_10 => ?_)
    · skip
      replace h := (if_pos c_10).symm.trans h
      refine lv_bipush (v := 41) hx hb dX10_scanSign_25 (by decide) ?_
      refine lv_iload_n hx hb dX10_scanSign_27 rfl (lv_at hl 0 rfl) ?_
      refine lv_iadd hx hb dX10_scanSign_28 ?_
      exact B_29 cs1 u0 (41 + y0) h _ _ _ hP hD hS (lv_sub hl [1] rfl)
    · skip
      replace h := (if_neg c_10).symm.trans h
      refine lv_bipush (v := 57) hx hb dX10_scanSign_20 (by decide) ?_
      refine lv_goto (tgt := 29) hx hb dX10_scanSign_22 (by decide) ?_
      exact B_29 cs1 u0 57 h _ _ _ hP hD hS (lv_sub hl [1] rfl)
  have h := hf
  unfold c_X10_scanSign at h
  refine lv_iload_n hx hb dX10_scanSign_0 rfl (lv_at hl 1 rfl) ?_
  refine lv_if_ge (tgt := 8) hx hb dX10_scanSign_1 (by decide) (fun c_11 => ?_) (fun c_11 => ?_)
  · skip
    replace h := (if_pos c_11).symm.trans h
    refine va_ldcS (own := RX10) (index := 99) (tx := soT 1) (q := K 1) hx hb hown (hZ.ref 1 (by decide)) dX10_scanSign_8 ?_
    refine lv_iload_n hx hb dX10_scanSign_10 rfl (lv_at hl 1 rfl) ?_
    refine lv_i2c hx hb dX10_scanSign_11 rfl ?_
    replace h := ob h; obtain ⟨v_12, hv_12, h⟩ := h
    refine strIdx_X10 hx hb hml hts hown hK hP hD hS hA hZ (by decide) (by decide) (Nat.zero_le _) (Nat.zero_le _) hv_12 hl.1 (Nat.le_of_ble_eq_true rfl) (Nat.le_of_ble_eq_true rfl) (Nat.le_of_ble_eq_true rfl) dX10_scanSign_12 (fun H locs hP hD hS => ?_)
    exact B_15 cs x0 v_12 h _ _ _ hP hD hS (lv_sub hl [0] rfl)
  · skip
    replace h := (if_neg c_11).symm.trans h
    refine lv_iconst (v := (-1)) hx hb dX10_scanSign_4 (by decide) ?_
    refine lv_goto (tgt := 15) hx hb dX10_scanSign_5 (by decide) ?_
    exact B_15 cs x0 (-1) h _ _ _ hP hD hS (lv_sub hl [0] rfl)
theorem dX10_scanToken_0 : decode cX10_scanToken 0 = .ok (.aload_n 0, 1) := by decide +kernel
theorem dX10_scanToken_1 : decode cX10_scanToken 1 = .ok (.aload_n 0, 1) := by decide +kernel
theorem dX10_scanToken_2 : decode cX10_scanToken 2 = .ok (.getfield 57, 3) := by decide +kernel
theorem dX10_scanToken_5 : decode cX10_scanToken 5 = .ok (.invokevirtual 67, 3) := by decide +kernel
theorem dX10_scanToken_8 : decode cX10_scanToken 8 = .ok (.istore_n 2, 1) := by decide +kernel
theorem dX10_scanToken_9 : decode cX10_scanToken 9 = .ok (.aload_n 0, 1) := by decide +kernel
theorem dX10_scanToken_10 : decode cX10_scanToken 10 = .ok (.getfield 18, 3) := by decide +kernel
theorem dX10_scanToken_13 : decode cX10_scanToken 13 = .ok (.iload_n 1, 1) := by decide +kernel
theorem dX10_scanToken_14 : decode cX10_scanToken 14 = .ok (.lconst 0, 1) := by decide +kernel
theorem dX10_scanToken_15 : decode cX10_scanToken 15 = .ok (.lastore, 1) := by decide +kernel
theorem dX10_scanToken_16 : decode cX10_scanToken 16 = .ok (.aload_n 0, 1) := by decide +kernel
theorem dX10_scanToken_17 : decode cX10_scanToken 17 = .ok (.getfield 57, 3) := by decide +kernel
theorem dX10_scanToken_20 : decode cX10_scanToken 20 = .ok (.aload_n 0, 1) := by decide +kernel
theorem dX10_scanToken_21 : decode cX10_scanToken 21 = .ok (.getfield 53, 3) := by decide +kernel
theorem dX10_scanToken_24 : decode cX10_scanToken 24 = .ok (.if_icmp .lt 14, 3) := by decide +kernel
theorem dX10_scanToken_27 : decode cX10_scanToken 27 = .ok (.aload_n 0, 1) := by decide +kernel
theorem dX10_scanToken_28 : decode cX10_scanToken 28 = .ok (.getfield 9, 3) := by decide +kernel
theorem dX10_scanToken_31 : decode cX10_scanToken 31 = .ok (.iload_n 1, 1) := by decide +kernel
theorem dX10_scanToken_32 : decode cX10_scanToken 32 = .ok (.bipush 56, 2) := by decide +kernel
theorem dX10_scanToken_34 : decode cX10_scanToken 34 = .ok (.iastore, 1) := by decide +kernel
theorem dX10_scanToken_35 : decode cX10_scanToken 35 = .ok (.goto 44, 3) := by decide +kernel
theorem dX10_scanToken_38 : decode cX10_scanToken 38 = .ok (.iload_n 2, 1) := by decide +kernel
theorem dX10_scanToken_39 : decode cX10_scanToken 39 = .ok (.invokestatic 70, 3) := by decide +kernel
theorem dX10_scanToken_42 : decode cX10_scanToken 42 = .ok (.ifCond .eq 11, 3) := by decide +kernel
theorem dX10_scanToken_45 : decode cX10_scanToken 45 = .ok (.aload_n 0, 1) := by decide +kernel
theorem dX10_scanToken_46 : decode cX10_scanToken 46 = .ok (.iload_n 1, 1) := by decide +kernel
theorem dX10_scanToken_47 : decode cX10_scanToken 47 = .ok (.invokevirtual 74, 3) := by decide +kernel
theorem dX10_scanToken_50 : decode cX10_scanToken 50 = .ok (.goto 29, 3) := by decide +kernel
theorem dX10_scanToken_53 : decode cX10_scanToken 53 = .ok (.iload_n 2, 1) := by decide +kernel
theorem dX10_scanToken_54 : decode cX10_scanToken 54 = .ok (.invokestatic 77, 3) := by decide +kernel
theorem dX10_scanToken_57 : decode cX10_scanToken 57 = .ok (.ifCond .eq 11, 3) := by decide +kernel
theorem dX10_scanToken_60 : decode cX10_scanToken 60 = .ok (.aload_n 0, 1) := by decide +kernel
theorem dX10_scanToken_61 : decode cX10_scanToken 61 = .ok (.iload_n 1, 1) := by decide +kernel
theorem dX10_scanToken_62 : decode cX10_scanToken 62 = .ok (.invokevirtual 80, 3) := by decide +kernel
theorem dX10_scanToken_65 : decode cX10_scanToken 65 = .ok (.goto 14, 3) := by decide +kernel
theorem dX10_scanToken_68 : decode cX10_scanToken 68 = .ok (.aload_n 0, 1) := by decide +kernel
theorem dX10_scanToken_69 : decode cX10_scanToken 69 = .ok (.getfield 9, 3) := by decide +kernel
theorem dX10_scanToken_72 : decode cX10_scanToken 72 = .ok (.iload_n 1, 1) := by decide +kernel
theorem dX10_scanToken_73 : decode cX10_scanToken 73 = .ok (.aload_n 0, 1) := by decide +kernel
theorem dX10_scanToken_74 : decode cX10_scanToken 74 = .ok (.iload_n 2, 1) := by decide +kernel
theorem dX10_scanToken_75 : decode cX10_scanToken 75 = .ok (.invokevirtual 83, 3) := by decide +kernel
theorem dX10_scanToken_78 : decode cX10_scanToken 78 = .ok (.iastore, 1) := by decide +kernel
theorem dX10_scanToken_79 : decode cX10_scanToken 79 = .ok (.return_, 1) := by decide +kernel
def c_X10_scanToken_b79 (F : Nat) (cs1 : CS) : Option CS := some cs1
def c_X10_scanToken (F : Nat) (cs : CS) (x0 : Nat) (x1 : Int32) : Option CS := Option.bind (gI cs 11 357 x0) fun v_1 => Option.bind (ckE cs 11 x0) fun _ => Option.bind (c_X10_byteAt F cs x0 v_1) fun v_2 => Option.bind (gA cs 11 354 x0) fun v_4 => Option.bind (wB cs 354 x0 v_4 x1 0) fun cs_5 => Option.bind (gI cs_5 11 357 x0) fun v_6 => Option.bind (gI cs_5 11 356 x0) fun v_7 => if v_6 < v_7 then (Option.bind (c_X10_isLetter F cs_5 v_2) fun v_9 => if v_9 = 0 then (Option.bind (c_X10_isDigit F cs_5 v_2) fun v_11 => if v_11 = 0 then (Option.bind (gA cs_5 11 352 x0) fun v_13 => Option.bind (ckE cs_5 11 x0) fun _ => Option.bind (c_X10_scanSign F cs_5 x0 v_2) fun z_14 => Option.bind (wA z_14.1 352 x0 v_13 x1 z_14.2) fun cs_16 => c_X10_scanToken_b79 F cs_16) else (Option.bind (ckE cs_5 11 x0) fun _ => Option.bind (c_X10_scanNumber F cs_5 x0 x1) fun cs_17 => c_X10_scanToken_b79 F cs_17)) else (Option.bind (ckE cs_5 11 x0) fun _ => Option.bind (c_X10_scanWord F cs_5 x0 x1) fun cs_19 => c_X10_scanToken_b79 F cs_19)) else (Option.bind (gA cs_5 11 352 x0) fun v_21 => Option.bind (wA cs_5 352 x0 v_21 x1 56) fun cs_22 => c_X10_scanToken_b79 F cs_22)
theorem cw_X10_X10_scanToken {R : Room} {s : State} {args : Array Value} {y0 : MethodName} {c0 : ByteArray} {n0 : Nat} {r0 : Option FieldType} (hts : ∀ w ∈ wsOf y0 c0 n0 r0, w.before args s = true) {fr : Nat} (h1 : fr + 1 ≤ R.frames) (h2 : 8 + (3 + 11) + 60 * fr ≤ R.locals) : CallW R s args RX10 RX10 63 yX10_scanToken cX10_scanToken 3 none (wsOf yX10_scanToken cX10_scanToken 3 none) ({ frames := fr, cells := 0, slots := 0, locals := 60 * fr } : Room) 0 0 1 := cwV 1 hts (gd_all (in_V kw_519 kw_521 kw_3 kw_183 kc_X10_scanToken)) rfl rfl rfl (by decide +kernel) ⟨h1, h2⟩
set_option maxHeartbeats 4000000 in
set_option maxRecDepth 100000 in
theorem sc_X10_scanToken (l : Launch) (dC : Nat → ClassId) (dI : Nat → Nat → Nat) (cB cI cJ cZ cS cO : ClassId) (b : Nat) (K V : Nat → Nat) (fz : Value) (F : Nat) (cs : CS) (x0 : Nat) (x1 : Int32) (cs9 : CS) (hf : c_X10_scanToken F cs x0 x1 = some cs9) : ocV l dC dI cB cI cJ cZ cS cO b K V fz yX10_scanToken (wsOf yX10_scanToken cX10_scanToken 3 none) (8) [.ref (b + x0), .int x1] cs cs9 := by
  intro sz
  refine Met.ofW (cc := cX10_scanToken) (maxL := 3) (ret := none) (by decide) rfl ?_
  intro p e s m args below meth c s₁ B hml hv
  obtain ⟨rfl, hsz, hP, hK, hD0, hZ⟩ := hv
  have hx := B.exec
  have hb := B.bytes
  have hr := B.returns
  have hts := atoms_spec (ws := (wsOf yX10_scanToken cX10_scanToken 3 none)) B.pre
  have hown : s.vm.findClass RX10 = some m.cls := findClass_of_methodNamed B.named
  have hlocks := B.notSynchronized
  subst hsz
  have hD := hD0.self (sz := s.heap.size)
  generalize hAe : va_A (cW cB cI cJ cZ cS cO b cs) s.heap.size = A at hD hZ ⊢
  have hA : ∀ q : Nat, s.heap.size ≤ q → A q := fun q h => by rw [← hAe]; exact Or.inr h
  have hS : va_S A s.heap s.heap [] := va_S.rf
  have hl := lv_entry ([.ref (b + x0), .int x1]) (n := 3) (Nat.le_of_ble_eq_true rfl)
  rw [lg_entry_eq]
  generalize (lg_sl ([.ref (b + x0), .int x1]) ++ List.replicate (3 - (lg_sl ([.ref (b + x0), .int x1])).length) Slot.unset).toArray = ls at hl ⊢
  have hl : lv_has ls 3 [(0, .ref (b + x0)), (1, .int x1)] := hl
  have B_79 : ∀ (cs1 : CS) , c_X10_scanToken_b79 F cs1 = some cs9 → ∀ (H : Heap) (locs : List Loc) (ls : Array Slot), va_P (dC, dI) vwCl (cW cB cI cJ cZ cS cO b cs1) H → va_D A (cW cB cI cJ cZ cS cO b cs1) → va_S A s.heap H locs → lv_has ls 3 [] → W p l e (headSpec (wsOf yX10_scanToken cX10_scanToken 3 none) ({ frames := 8, cells := 0, slots := 0, locals := 60 * (8) } : Room)).room s m ([.ref (b + x0), .int x1] : List Value).toArray below meth c H locs 0 0 (MQ below (va_Qv (fun (_ : Unit) => True) (fun _ t_ => va_P (dC, dI) vwCl (cW cB cI cJ cZ cS cO b cs9) t_.heap ∧ va_D A (cW cB cI cJ cZ cS cO b cs9)) A) ([.ref (b + x0), .int x1] : List Value).toArray s 0 0 A) (F0 m 79 ls []) := by
    intro cs1  h H locs ls hP hD hS hl
    unfold c_X10_scanToken_b79 at h
    have e1 := Option.some.inj h
    rw [e1] at hP hD
    exact W.vret hx hb hr (fun t_ ht hW => ⟨⟨(), rfl, trivial, by rw [ht]; exact hP, hD⟩, hS.F ht⟩) hS.2.2 dX10_scanToken_79
  have h := hf
  unfold c_X10_scanToken at h
  refine lv_aload_n hx hb dX10_scanToken_0 rfl (lv_at hl 0 rfl) ?_
  refine lv_aload_n hx hb dX10_scanToken_1 rfl (lv_at hl 0 rfl) ?_
  replace h := ob h; obtain ⟨v_1, hv_1, h⟩ := h
  refine fg_X10_57 hx hb hts hown hK hP hv_1 dX10_scanToken_2 ?_
  replace h := ob h; obtain ⟨w_3, hw_3, h⟩ := h
  replace h := ob h; obtain ⟨v_2, hv_2, h⟩ := h
  refine ccI (As := [.int v_1]) hx hb hml hts hown hK hP hD hS hA hZ (X := 11) (by decide) rfl (ckE_some hw_3) (sc_X10_byteAt l dC dI cB cI cJ cZ cS cO b K V fz F cs x0 v_1 v_2 hv_2) (cw_X10_X10_byteAt hts (fr := 0) (Nat.le_of_ble_eq_true rfl) (Nat.le_of_ble_eq_true rfl)) rfl hl.1 (Nat.le_of_ble_eq_true rfl) ⟨Nat.zero_le _, Nat.zero_le _⟩ dX10_scanToken_5 (fun H locs hP hD hS => ?_)
  refine lv_istore_n (lv' := [(2, .int v_2), (0, .ref (b + x0)), (1, .int x1)]) hx hb dX10_scanToken_8 rfl hl (by decide) rfl (fun ls hl => ?_)
  refine lv_aload_n hx hb dX10_scanToken_9 rfl (lv_at hl 1 rfl) ?_
  replace h := ob h; obtain ⟨v_4, hv_4, h⟩ := h
  refine fg_X10_18 hx hb hts hown hK hP hv_4 dX10_scanToken_10 ?_
  refine lv_iload_n hx hb dX10_scanToken_13 rfl (lv_at hl 2 rfl) ?_
  refine lv_lconst (v := 0) hx hb dX10_scanToken_14 (by decide) ?_
  replace h := ob h; obtain ⟨cs_5, hv_5, h⟩ := h
  refine ast2 hx hb hK hP hD hS rfl hv_5 dX10_scanToken_15 (fun H locs hP hD hS => ?_)
  refine lv_aload_n hx hb dX10_scanToken_16 rfl (lv_at hl 1 rfl) ?_
  replace h := ob h; obtain ⟨v_6, hv_6, h⟩ := h
  refine fg_X10_57 hx hb hts hown hK hP hv_6 dX10_scanToken_17 ?_
  refine lv_aload_n hx hb dX10_scanToken_20 rfl (lv_at hl 1 rfl) ?_
  replace h := ob h; obtain ⟨v_7, hv_7, h⟩ := h
  refine fg_X10_53 hx hb hts hown hK hP hv_7 dX10_scanToken_21 ?_
  refine lv_icmp_lt (tgt := 38) hx hb dX10_scanToken_24 (by decide) (fun c_8 => ?_) (fun c_8 => ?_)
  · skip
    replace h := (if_pos c_8).symm.trans h
    refine lv_iload_n hx hb dX10_scanToken_38 rfl (lv_at hl 0 rfl) ?_
    replace h := ob h; obtain ⟨v_9, hv_9, h⟩ := h
    refine ccSI (As := [.int v_2]) hx hb hml hts hown hK hP hD hS hA hZ (sc_X10_isLetter l dC dI cB cI cJ cZ cS cO b K V fz F cs_5 v_2 v_9 hv_9) (cw_X10_X10_isLetter hts (fr := 0) (Nat.le_of_ble_eq_true rfl) (Nat.le_of_ble_eq_true rfl)) rfl hl.1 (Nat.le_of_ble_eq_true rfl) ⟨Nat.zero_le _, Nat.zero_le _⟩ dX10_scanToken_39 (fun H locs hP hD hS => ?_)
    refine lv_if_eq (tgt := 53) hx hb dX10_scanToken_42 (by decide) (fun c_10 => ?_) (fun c_10 => ?_)
    · skip
      replace h := (if_pos c_10).symm.trans h
      refine lv_iload_n hx hb dX10_scanToken_53 rfl (lv_at hl 0 rfl) ?_
      replace h := ob h; obtain ⟨v_11, hv_11, h⟩ := h
      refine ccSI (As := [.int v_2]) hx hb hml hts hown hK hP hD hS hA hZ (sc_X10_isDigit l dC dI cB cI cJ cZ cS cO b K V fz F cs_5 v_2 v_11 hv_11) (cw_X10_X10_isDigit hts (fr := 0) (Nat.le_of_ble_eq_true rfl) (Nat.le_of_ble_eq_true rfl)) rfl hl.1 (Nat.le_of_ble_eq_true rfl) ⟨Nat.zero_le _, Nat.zero_le _⟩ dX10_scanToken_54 (fun H locs hP hD hS => ?_)
      refine lv_if_eq (tgt := 68) hx hb dX10_scanToken_57 (by decide) (fun c_12 => ?_) (fun c_12 => ?_)
      · skip
        replace h := (if_pos c_12).symm.trans h
        refine lv_aload_n hx hb dX10_scanToken_68 rfl (lv_at hl 1 rfl) ?_
        replace h := ob h; obtain ⟨v_13, hv_13, h⟩ := h
        refine fg_X10_9 hx hb hts hown hK hP hv_13 dX10_scanToken_69 ?_
        refine lv_iload_n hx hb dX10_scanToken_72 rfl (lv_at hl 2 rfl) ?_
        refine lv_aload_n hx hb dX10_scanToken_73 rfl (lv_at hl 1 rfl) ?_
        refine lv_iload_n hx hb dX10_scanToken_74 rfl (lv_at hl 0 rfl) ?_
        replace h := ob h; obtain ⟨w_15, hw_15, h⟩ := h
        replace h := ob h; obtain ⟨z_14, hv_14, h⟩ := h
        refine ccI (As := [.int v_2]) hx hb hml hts hown hK hP hD hS hA hZ (X := 11) (by decide) rfl (ckE_some hw_15) (sc_X10_scanSign l dC dI cB cI cJ cZ cS cO b K V fz F cs_5 x0 v_2 z_14.1 z_14.2 hv_14) (cw_X10_X10_scanSign hts (fr := 7) (Nat.le_of_ble_eq_true rfl) (Nat.le_of_ble_eq_true rfl)) rfl hl.1 (Nat.le_of_ble_eq_true rfl) ⟨Nat.zero_le _, Nat.zero_le _⟩ dX10_scanToken_75 (fun H locs hP hD hS => ?_)
        replace h := ob h; obtain ⟨cs_16, hv_16, h⟩ := h
        refine ast0 hx hb hK hP hD hS rfl hv_16 dX10_scanToken_78 (fun H locs hP hD hS => ?_)
        exact B_79 cs_16 h _ _ _ hP hD hS (lv_sub hl [] rfl)
      · skip
        replace h := (if_neg c_12).symm.trans h
        refine lv_aload_n hx hb dX10_scanToken_60 rfl (lv_at hl 1 rfl) ?_
        refine lv_iload_n hx hb dX10_scanToken_61 rfl (lv_at hl 2 rfl) ?_
        replace h := ob h; obtain ⟨w_18, hw_18, h⟩ := h
        replace h := ob h; obtain ⟨cs_17, hv_17, h⟩ := h
        refine ccV (As := [.int x1]) hx hb hml hts hown hK hP hD hS hA hZ (X := 11) (by decide) rfl (ckE_some hw_18) (sc_X10_scanNumber l dC dI cB cI cJ cZ cS cO b K V fz F cs_5 x0 x1 cs_17 hv_17) (cw_X10_X10_scanNumber hts (fr := 1) (Nat.le_of_ble_eq_true rfl) (Nat.le_of_ble_eq_true rfl)) rfl hl.1 (Nat.le_of_ble_eq_true rfl) ⟨Nat.zero_le _, Nat.zero_le _⟩ dX10_scanToken_62 (fun H locs hP hD hS => ?_)
        refine lv_goto (tgt := 79) hx hb dX10_scanToken_65 (by decide) ?_
        exact B_79 cs_17 h _ _ _ hP hD hS (lv_sub hl [] rfl)
    · skip
      replace h := (if_neg c_10).symm.trans h
      refine lv_aload_n hx hb dX10_scanToken_45 rfl (lv_at hl 1 rfl) ?_
      refine lv_iload_n hx hb dX10_scanToken_46 rfl (lv_at hl 2 rfl) ?_
      replace h := ob h; obtain ⟨w_20, hw_20, h⟩ := h
      replace h := ob h; obtain ⟨cs_19, hv_19, h⟩ := h
      refine ccV (As := [.int x1]) hx hb hml hts hown hK hP hD hS hA hZ (X := 11) (by decide) rfl (ckE_some hw_20) (sc_X10_scanWord l dC dI cB cI cJ cZ cS cO b K V fz F cs_5 x0 x1 cs_19 hv_19) (cw_X10_X10_scanWord hts (fr := 2) (Nat.le_of_ble_eq_true rfl) (Nat.le_of_ble_eq_true rfl)) rfl hl.1 (Nat.le_of_ble_eq_true rfl) ⟨Nat.zero_le _, Nat.zero_le _⟩ dX10_scanToken_47 (fun H locs hP hD hS => ?_)
      refine lv_goto (tgt := 79) hx hb dX10_scanToken_50 (by decide) ?_
      exact B_79 cs_19 h _ _ _ hP hD hS (lv_sub hl [] rfl)
  · skip
    replace h := (if_neg c_8).symm.trans h
    refine lv_aload_n hx hb dX10_scanToken_27 rfl (lv_at hl 1 rfl) ?_
    replace h := ob h; obtain ⟨v_21, hv_21, h⟩ := h
    refine fg_X10_9 hx hb hts hown hK hP hv_21 dX10_scanToken_28 ?_
    refine lv_iload_n hx hb dX10_scanToken_31 rfl (lv_at hl 2 rfl) ?_
    refine lv_bipush (v := 56) hx hb dX10_scanToken_32 (by decide) ?_
    replace h := ob h; obtain ⟨cs_22, hv_22, h⟩ := h
    refine ast0 hx hb hK hP hD hS rfl hv_22 dX10_scanToken_34 (fun H locs hP hD hS => ?_)
    refine lv_goto (tgt := 79) hx hb dX10_scanToken_35 (by decide) ?_
    exact B_79 cs_22 h _ _ _ hP hD hS (lv_sub hl [] rfl)
theorem dX10_scan_0 : decode cX10_scan 0 = .ok (.aload_n 0, 1) := by decide +kernel
theorem dX10_scan_1 : decode cX10_scan 1 = .ok (.aload_n 1, 1) := by decide +kernel
theorem dX10_scan_2 : decode cX10_scan 2 = .ok (.putfield 22, 3) := by decide +kernel
theorem dX10_scan_5 : decode cX10_scan 5 = .ok (.aload_n 0, 1) := by decide +kernel
theorem dX10_scan_6 : decode cX10_scan 6 = .ok (.iload_n 2, 1) := by decide +kernel
theorem dX10_scan_7 : decode cX10_scan 7 = .ok (.aload_n 1, 1) := by decide +kernel
theorem dX10_scan_8 : decode cX10_scan 8 = .ok (.arraylength, 1) := by decide +kernel
theorem dX10_scan_9 : decode cX10_scan 9 = .ok (.invokestatic 47, 3) := by decide +kernel
theorem dX10_scan_12 : decode cX10_scan 12 = .ok (.putfield 53, 3) := by decide +kernel
theorem dX10_scan_15 : decode cX10_scan 15 = .ok (.aload_n 0, 1) := by decide +kernel
theorem dX10_scan_16 : decode cX10_scan 16 = .ok (.iconst 0, 1) := by decide +kernel
theorem dX10_scan_17 : decode cX10_scan 17 = .ok (.putfield 57, 3) := by decide +kernel
theorem dX10_scan_20 : decode cX10_scan 20 = .ok (.iconst 1, 1) := by decide +kernel
theorem dX10_scan_21 : decode cX10_scan 21 = .ok (.istore_n 3, 1) := by decide +kernel
theorem dX10_scan_22 : decode cX10_scan 22 = .ok (.iconst 0, 1) := by decide +kernel
theorem dX10_scan_23 : decode cX10_scan 23 = .ok (.istore 4, 2) := by decide +kernel
theorem dX10_scan_25 : decode cX10_scan 25 = .ok (.iload 4, 2) := by decide +kernel
theorem dX10_scan_27 : decode cX10_scan 27 = .ok (.aload_n 0, 1) := by decide +kernel
theorem dX10_scan_28 : decode cX10_scan 28 = .ok (.getfield 9, 3) := by decide +kernel
theorem dX10_scan_31 : decode cX10_scan 31 = .ok (.arraylength, 1) := by decide +kernel
theorem dX10_scan_32 : decode cX10_scan 32 = .ok (.if_icmp .ge 64, 3) := by decide +kernel
theorem dX10_scan_35 : decode cX10_scan 35 = .ok (.iload_n 3, 1) := by decide +kernel
theorem dX10_scan_36 : decode cX10_scan 36 = .ok (.ifCond .eq 60, 3) := by decide +kernel
theorem dX10_scan_39 : decode cX10_scan 39 = .ok (.aload_n 0, 1) := by decide +kernel
theorem dX10_scan_40 : decode cX10_scan 40 = .ok (.invokevirtual 60, 3) := by decide +kernel
theorem dX10_scan_43 : decode cX10_scan 43 = .ok (.aload_n 0, 1) := by decide +kernel
theorem dX10_scan_44 : decode cX10_scan 44 = .ok (.getfield 15, 3) := by decide +kernel
theorem dX10_scan_47 : decode cX10_scan 47 = .ok (.iload 4, 2) := by decide +kernel
theorem dX10_scan_49 : decode cX10_scan 49 = .ok (.aload_n 0, 1) := by decide +kernel
theorem dX10_scan_50 : decode cX10_scan 50 = .ok (.getfield 57, 3) := by decide +kernel
theorem dX10_scan_53 : decode cX10_scan 53 = .ok (.iastore, 1) := by decide +kernel
theorem dX10_scan_54 : decode cX10_scan 54 = .ok (.aload_n 0, 1) := by decide +kernel
theorem dX10_scan_55 : decode cX10_scan 55 = .ok (.iload 4, 2) := by decide +kernel
theorem dX10_scan_57 : decode cX10_scan 57 = .ok (.invokevirtual 63, 3) := by decide +kernel
theorem dX10_scan_60 : decode cX10_scan 60 = .ok (.aload_n 0, 1) := by decide +kernel
theorem dX10_scan_61 : decode cX10_scan 61 = .ok (.getfield 9, 3) := by decide +kernel
theorem dX10_scan_64 : decode cX10_scan 64 = .ok (.iload 4, 2) := by decide +kernel
theorem dX10_scan_66 : decode cX10_scan 66 = .ok (.iaload, 1) := by decide +kernel
theorem dX10_scan_67 : decode cX10_scan 67 = .ok (.bipush 56, 2) := by decide +kernel
theorem dX10_scan_69 : decode cX10_scan 69 = .ok (.if_icmp .eq 19, 3) := by decide +kernel
theorem dX10_scan_72 : decode cX10_scan 72 = .ok (.aload_n 0, 1) := by decide +kernel
theorem dX10_scan_73 : decode cX10_scan 73 = .ok (.getfield 9, 3) := by decide +kernel
theorem dX10_scan_76 : decode cX10_scan 76 = .ok (.iload 4, 2) := by decide +kernel
theorem dX10_scan_78 : decode cX10_scan 78 = .ok (.iaload, 1) := by decide +kernel
theorem dX10_scan_79 : decode cX10_scan 79 = .ok (.bipush 57, 2) := by decide +kernel
theorem dX10_scan_81 : decode cX10_scan 81 = .ok (.if_icmp .eq 7, 3) := by decide +kernel
theorem dX10_scan_84 : decode cX10_scan 84 = .ok (.iconst 1, 1) := by decide +kernel
theorem dX10_scan_85 : decode cX10_scan 85 = .ok (.goto 4, 3) := by decide +kernel
theorem dX10_scan_88 : decode cX10_scan 88 = .ok (.iconst 0, 1) := by decide +kernel
theorem dX10_scan_89 : decode cX10_scan 89 = .ok (.istore_n 3, 1) := by decide +kernel
theorem dX10_scan_90 : decode cX10_scan 90 = .ok (.iinc 4 1, 3) := by decide +kernel
theorem dX10_scan_93 : decode cX10_scan 93 = .ok (.goto (-68), 3) := by decide +kernel
theorem dX10_scan_96 : decode cX10_scan 96 = .ok (.return_, 1) := by decide +kernel
def c_X10_scan_b96 (F : Nat) (cs1 : CS) : Option CS := some cs1
def c_X10_scan_b89 (F : Nat) (rc25 : CS → Nat → Int32 → Int32 → Option CS) (cs1 : CS) (u0 : Nat) (u4 : Int32) (y0 : Int32) : Option CS := rc25 cs1 u0 y0 (u4 + 1)
def c_X10_scan_b88 (F : Nat) (rc25 : CS → Nat → Int32 → Int32 → Option CS) (cs1 : CS) (u0 : Nat) (u4 : Int32) : Option CS := c_X10_scan_b89 F rc25 cs1 u0 u4 0
def c_X10_scan_L25 (F : Nat) : Nat → CS → Nat → Int32 → Int32 → Option CS
  | 0, _, _, _, _ => none
  | lf_25 + 1, cs1, u0, u3, u4 => Option.bind (gA cs1 11 352 u0) fun v_1 => Option.bind (lnA cs1 352 u0 v_1) fun v_2 => if v_2 ≤ u4 then (c_X10_scan_b96 F cs1) else (if u3 = 0 then (c_X10_scan_b96 F cs1) else (Option.bind (ckE cs1 11 u0) fun _ => Option.bind (c_X10_skipBlanks F cs1 u0) fun cs_5 => Option.bind (gA cs_5 11 353 u0) fun v_7 => Option.bind (gI cs_5 11 357 u0) fun v_8 => Option.bind (wA cs_5 353 u0 v_7 u4 v_8) fun cs_9 => Option.bind (ckE cs_9 11 u0) fun _ => Option.bind (c_X10_scanToken F cs_9 u0 u4) fun cs_10 => Option.bind (gA cs_10 11 352 u0) fun v_12 => Option.bind (rA cs_10 352 u0 v_12 u4) fun v_13 => if v_13 = 56 then (c_X10_scan_b88 F (c_X10_scan_L25 F lf_25) cs_10 u0 u4) else (Option.bind (gA cs_10 11 352 u0) fun v_15 => Option.bind (rA cs_10 352 u0 v_15 u4) fun v_16 => if v_16 = 57 then (c_X10_scan_b88 F (c_X10_scan_L25 F lf_25) cs_10 u0 u4) else (c_X10_scan_b89 F (c_X10_scan_L25 F lf_25) cs_10 u0 u4 1))))
def c_X10_scan (F : Nat) (cs : CS) (x0 : Nat) (x1 : Nat) (wx1 : Nat) (x2 : Int32) : Option CS := Option.bind (pBy cs x0 x1 wx1) fun cs_18 => Option.bind (lnA cs_18 384 x1 wx1) fun v_19 => Option.bind (pI cs_18 11 356 x0 (if v_19 < x2 then v_19 else x2)) fun cs_20 => Option.bind (pI cs_20 11 357 x0 0) fun cs_21 => c_X10_scan_L25 F F cs_21 x0 1 0
theorem cw_X11_X10_scan {R : Room} {s : State} {args : Array Value} {y0 : MethodName} {c0 : ByteArray} {n0 : Nat} {r0 : Option FieldType} (hts : ∀ w ∈ wsOf y0 c0 n0 r0, w.before args s = true) {fr : Nat} (h1 : fr + 1 ≤ R.frames) (h2 : 8 + (5 + 11) + 60 * fr ≤ R.locals) : CallW R s args RX11 RX10 70 yX10_scan cX10_scan 5 none (wsOf yX10_scan cX10_scan 5 none) ({ frames := fr, cells := 0, slots := 0, locals := 60 * fr } : Room) 0 0 2 := cwV 2 hts (gd_all (in_V kw_501 kw_502 kw_503 kw_183 kc_X10_scan)) rfl rfl rfl (by decide +kernel) ⟨h1, h2⟩
set_option maxHeartbeats 4000000 in
set_option maxRecDepth 100000 in
theorem sc_X10_scan (l : Launch) (dC : Nat → ClassId) (dI : Nat → Nat → Nat) (cB cI cJ cZ cS cO : ClassId) (b : Nat) (K V : Nat → Nat) (fz : Value) (F : Nat) (cs : CS) (x0 : Nat) (x1 : Nat) (wx1 : Nat) (x2 : Int32) (cs9 : CS) (hf : c_X10_scan F cs x0 x1 wx1 x2 = some cs9) : ocV l dC dI cB cI cJ cZ cS cO b K V fz yX10_scan (wsOf yX10_scan cX10_scan 5 none) (9) [.ref (b + x0), .ref (b + wx1), .int x2] cs cs9 := by
  intro sz
  refine Met.ofW (cc := cX10_scan) (maxL := 5) (ret := none) (by decide) rfl ?_
  intro p e s m args below meth c s₁ B hml hv
  obtain ⟨rfl, hsz, hP, hK, hD0, hZ⟩ := hv
  have hx := B.exec
  have hb := B.bytes
  have hr := B.returns
  have hts := atoms_spec (ws := (wsOf yX10_scan cX10_scan 5 none)) B.pre
  have hown : s.vm.findClass RX10 = some m.cls := findClass_of_methodNamed B.named
  have hlocks := B.notSynchronized
  subst hsz
  have hD := hD0.self (sz := s.heap.size)
  generalize hAe : va_A (cW cB cI cJ cZ cS cO b cs) s.heap.size = A at hD hZ ⊢
  have hA : ∀ q : Nat, s.heap.size ≤ q → A q := fun q h => by rw [← hAe]; exact Or.inr h
  have hS : va_S A s.heap s.heap [] := va_S.rf
  have hl := lv_entry ([.ref (b + x0), .ref (b + wx1), .int x2]) (n := 5) (Nat.le_of_ble_eq_true rfl)
  rw [lg_entry_eq]
  generalize (lg_sl ([.ref (b + x0), .ref (b + wx1), .int x2]) ++ List.replicate (5 - (lg_sl ([.ref (b + x0), .ref (b + wx1), .int x2])).length) Slot.unset).toArray = ls at hl ⊢
  have hl : lv_has ls 5 [(0, .ref (b + x0)), (1, .ref (b + wx1)), (2, .int x2)] := hl
  have B_96 : ∀ (cs1 : CS) , c_X10_scan_b96 F cs1 = some cs9 → ∀ (H : Heap) (locs : List Loc) (ls : Array Slot), va_P (dC, dI) vwCl (cW cB cI cJ cZ cS cO b cs1) H → va_D A (cW cB cI cJ cZ cS cO b cs1) → va_S A s.heap H locs → lv_has ls 5 [] → W p l e (headSpec (wsOf yX10_scan cX10_scan 5 none) ({ frames := 9, cells := 0, slots := 0, locals := 60 * (9) } : Room)).room s m ([.ref (b + x0), .ref (b + wx1), .int x2] : List Value).toArray below meth c H locs 0 0 (MQ below (va_Qv (fun (_ : Unit) => True) (fun _ t_ => va_P (dC, dI) vwCl (cW cB cI cJ cZ cS cO b cs9) t_.heap ∧ va_D A (cW cB cI cJ cZ cS cO b cs9)) A) ([.ref (b + x0), .ref (b + wx1), .int x2] : List Value).toArray s 0 0 A) (F0 m 96 ls []) := by
    intro cs1  h H locs ls hP hD hS hl
    unfold c_X10_scan_b96 at h
    have e1 := Option.some.inj h
    rw [e1] at hP hD
    exact W.vret hx hb hr (fun t_ ht hW => ⟨⟨(), rfl, trivial, by rw [ht]; exact hP, hD⟩, hS.F ht⟩) hS.2.2 dX10_scan_96
  have L_25 : ∀ (lf_25 : Nat), ∀ (cs1 : CS) (u0 : Nat) (u3 : Int32) (u4 : Int32), c_X10_scan_L25 F lf_25 cs1 u0 u3 u4 = some cs9 → ∀ (H : Heap) (locs : List Loc) (ls : Array Slot), va_P (dC, dI) vwCl (cW cB cI cJ cZ cS cO b cs1) H → va_D A (cW cB cI cJ cZ cS cO b cs1) → va_S A s.heap H locs → lv_has ls 5 [(0, .ref (b + u0)), (3, .int u3), (4, .int u4)] → W p l e (headSpec (wsOf yX10_scan cX10_scan 5 none) ({ frames := 9, cells := 0, slots := 0, locals := 60 * (9) } : Room)).room s m ([.ref (b + x0), .ref (b + wx1), .int x2] : List Value).toArray below meth c H locs 0 0 (MQ below (va_Qv (fun (_ : Unit) => True) (fun _ t_ => va_P (dC, dI) vwCl (cW cB cI cJ cZ cS cO b cs9) t_.heap ∧ va_D A (cW cB cI cJ cZ cS cO b cs9)) A) ([.ref (b + x0), .ref (b + wx1), .int x2] : List Value).toArray s 0 0 A) (F0 m 25 ls []) := by
    intro lf_25
    induction lf_25 with
    | zero => intro cs1 u0 u3 u4 h; cases (show (none : Option CS) = _ from h)
    | succ lf_25 ih_25 =>
      have B_89 : ∀ (cs1 : CS) (u0 : Nat) (u4 : Int32) (y0 : Int32), c_X10_scan_b89 F (c_X10_scan_L25 F lf_25) cs1 u0 u4 y0 = some cs9 → ∀ (H : Heap) (locs : List Loc) (ls : Array Slot), va_P (dC, dI) vwCl (cW cB cI cJ cZ cS cO b cs1) H → va_D A (cW cB cI cJ cZ cS cO b cs1) → va_S A s.heap H locs → lv_has ls 5 [(0, .ref (b + u0)), (4, .int u4)] → W p l e (headSpec (wsOf yX10_scan cX10_scan 5 none) ({ frames := 9, cells := 0, slots := 0, locals := 60 * (9) } : Room)).room s m ([.ref (b + x0), .ref (b + wx1), .int x2] : List Value).toArray below meth c H locs 0 0 (MQ below (va_Qv (fun (_ : Unit) => True) (fun _ t_ => va_P (dC, dI) vwCl (cW cB cI cJ cZ cS cO b cs9) t_.heap ∧ va_D A (cW cB cI cJ cZ cS cO b cs9)) A) ([.ref (b + x0), .ref (b + wx1), .int x2] : List Value).toArray s 0 0 A) (F0 m 89 ls [.int y0]) := by
        intro cs1 u0 u4 y0 h H locs ls hP hD hS hl
        unfold c_X10_scan_b89 at h
        refine lv_istore_n (lv' := [(3, .int y0), (0, .ref (b + u0)), (4, .int u4)]) hx hb dX10_scan_89 rfl hl (by decide) rfl (fun ls hl => ?_)
        refine lv_iinc (v := u4 + 1) (lv' := [(4, .int (u4 + 1)), (3, .int y0), (0, .ref (b + u0))]) hx hb dX10_scan_90 hl (k := 2) rfl rfl (by decide) rfl (fun ls hl => ?_)
        refine lv_goto (tgt := 25) hx hb dX10_scan_93 (by decide) ?_
        exact ih_25 cs1 u0 y0 (u4 + 1) h _ _ _ hP hD hS (lv_sub hl [2, 1, 0] rfl)
      have B_88 : ∀ (cs1 : CS) (u0 : Nat) (u4 : Int32), c_X10_scan_b88 F (c_X10_scan_L25 F lf_25) cs1 u0 u4 = some cs9 → ∀ (H : Heap) (locs : List Loc) (ls : Array Slot), va_P (dC, dI) vwCl (cW cB cI cJ cZ cS cO b cs1) H → va_D A (cW cB cI cJ cZ cS cO b cs1) → va_S A s.heap H locs → lv_has ls 5 [(0, .ref (b + u0)), (4, .int u4)] → W p l e (headSpec (wsOf yX10_scan cX10_scan 5 none) ({ frames := 9, cells := 0, slots := 0, locals := 60 * (9) } : Room)).room s m ([.ref (b + x0), .ref (b + wx1), .int x2] : List Value).toArray below meth c H locs 0 0 (MQ below (va_Qv (fun (_ : Unit) => True) (fun _ t_ => va_P (dC, dI) vwCl (cW cB cI cJ cZ cS cO b cs9) t_.heap ∧ va_D A (cW cB cI cJ cZ cS cO b cs9)) A) ([.ref (b + x0), .ref (b + wx1), .int x2] : List Value).toArray s 0 0 A) (F0 m 88 ls []) := by
        intro cs1 u0 u4 h H locs ls hP hD hS hl
        unfold c_X10_scan_b88 at h
        refine lv_iconst (v := 0) hx hb dX10_scan_88 (by decide) ?_
        exact B_89 cs1 u0 u4 0 h _ _ _ hP hD hS (lv_sub hl [0, 1] rfl)
      intro cs1 u0 u3 u4 h H locs ls hP hD hS hl
      rw [c_X10_scan_L25] at h
      refine lv_iload hx hb dX10_scan_25 (lv_at hl 2 rfl) ?_
      refine lv_aload_n hx hb dX10_scan_27 rfl (lv_at hl 0 rfl) ?_
      replace h := ob h; obtain ⟨v_1, hv_1, h⟩ := h
      refine fg_X10_9 hx hb hts hown hK hP hv_1 dX10_scan_28 ?_
      replace h := ob h; obtain ⟨v_2, hv_2, h⟩ := h
      refine alen0 hx hb hK hP rfl hv_2 dX10_scan_31 ?_
      refine lv_icmp_ge (tgt := 96) hx hb dX10_scan_32 (by decide) (fun c_3 => ?_) (fun c_3 => ?_)
      · skip
        replace h := (if_pos c_3).symm.trans h
        exact B_96 cs1 h _ _ _ hP hD hS (lv_sub hl [] rfl)
      · skip
        replace h := (if_neg c_3).symm.trans h
        refine lv_iload_n hx hb dX10_scan_35 rfl (lv_at hl 1 rfl) ?_
        refine lv_if_eq (tgt := 96) hx hb dX10_scan_36 (by decide) (fun c_4 => ?_) (fun c_4 => ?_)
        · skip
          replace h := (if_pos c_4).symm.trans h
          exact B_96 cs1 h _ _ _ hP hD hS (lv_sub hl [] rfl)
        · skip
          replace h := (if_neg c_4).symm.trans h
          refine lv_aload_n hx hb dX10_scan_39 rfl (lv_at hl 0 rfl) ?_
          replace h := ob h; obtain ⟨w_6, hw_6, h⟩ := h
          replace h := ob h; obtain ⟨cs_5, hv_5, h⟩ := h
          refine ccV (As := []) hx hb hml hts hown hK hP hD hS hA hZ (X := 11) (by decide) rfl (ckE_some hw_6) (sc_X10_skipBlanks l dC dI cB cI cJ cZ cS cO b K V fz F cs1 u0 cs_5 hv_5) (cw_X10_X10_skipBlanks hts (fr := 1) (Nat.le_of_ble_eq_true rfl) (Nat.le_of_ble_eq_true rfl)) rfl hl.1 (Nat.le_of_ble_eq_true rfl) ⟨Nat.zero_le _, Nat.zero_le _⟩ dX10_scan_40 (fun H locs hP hD hS => ?_)
          refine lv_aload_n hx hb dX10_scan_43 rfl (lv_at hl 0 rfl) ?_
          replace h := ob h; obtain ⟨v_7, hv_7, h⟩ := h
          refine fg_X10_15 hx hb hts hown hK hP hv_7 dX10_scan_44 ?_
          refine lv_iload hx hb dX10_scan_47 (lv_at hl 2 rfl) ?_
          refine lv_aload_n hx hb dX10_scan_49 rfl (lv_at hl 0 rfl) ?_
          replace h := ob h; obtain ⟨v_8, hv_8, h⟩ := h
          refine fg_X10_57 hx hb hts hown hK hP hv_8 dX10_scan_50 ?_
          replace h := ob h; obtain ⟨cs_9, hv_9, h⟩ := h
          refine ast0 hx hb hK hP hD hS rfl hv_9 dX10_scan_53 (fun H locs hP hD hS => ?_)
          refine lv_aload_n hx hb dX10_scan_54 rfl (lv_at hl 0 rfl) ?_
          refine lv_iload hx hb dX10_scan_55 (lv_at hl 2 rfl) ?_
          replace h := ob h; obtain ⟨w_11, hw_11, h⟩ := h
          replace h := ob h; obtain ⟨cs_10, hv_10, h⟩ := h
          refine ccV (As := [.int u4]) hx hb hml hts hown hK hP hD hS hA hZ (X := 11) (by decide) rfl (ckE_some hw_11) (sc_X10_scanToken l dC dI cB cI cJ cZ cS cO b K V fz F cs_9 u0 u4 cs_10 hv_10) (cw_X10_X10_scanToken hts (fr := 8) (Nat.le_of_ble_eq_true rfl) (Nat.le_of_ble_eq_true rfl)) rfl hl.1 (Nat.le_of_ble_eq_true rfl) ⟨Nat.zero_le _, Nat.zero_le _⟩ dX10_scan_57 (fun H locs hP hD hS => ?_)
          refine lv_aload_n hx hb dX10_scan_60 rfl (lv_at hl 0 rfl) ?_
          replace h := ob h; obtain ⟨v_12, hv_12, h⟩ := h
          refine fg_X10_9 hx hb hts hown hK hP hv_12 dX10_scan_61 ?_
          refine lv_iload hx hb dX10_scan_64 (lv_at hl 2 rfl) ?_
          replace h := ob h; obtain ⟨v_13, hv_13, h⟩ := h
          refine ald0 hx hb hK hP rfl hv_13 dX10_scan_66 ?_
          refine lv_bipush (v := 56) hx hb dX10_scan_67 (by decide) ?_
          refine lv_icmp_eq (tgt := 88) hx hb dX10_scan_69 (by decide) (fun c_14 => ?_) (fun c_14 => ?_)
          · skip
            replace h := (if_pos c_14).symm.trans h
            exact B_88 cs_10 u0 u4 h _ _ _ hP hD hS (lv_sub hl [0, 2] rfl)
          · skip
            replace h := (if_neg c_14).symm.trans h
            refine lv_aload_n hx hb dX10_scan_72 rfl (lv_at hl 0 rfl) ?_
            replace h := ob h; obtain ⟨v_15, hv_15, h⟩ := h
            refine fg_X10_9 hx hb hts hown hK hP hv_15 dX10_scan_73 ?_
            refine lv_iload hx hb dX10_scan_76 (lv_at hl 2 rfl) ?_
            replace h := ob h; obtain ⟨v_16, hv_16, h⟩ := h
            refine ald0 hx hb hK hP rfl hv_16 dX10_scan_78 ?_
            refine lv_bipush (v := 57) hx hb dX10_scan_79 (by decide) ?_
            refine lv_icmp_eq (tgt := 88) hx hb dX10_scan_81 (by decide) (fun c_17 => ?_) (fun c_17 => ?_)
            · skip
              replace h := (if_pos c_17).symm.trans h
              exact B_88 cs_10 u0 u4 h _ _ _ hP hD hS (lv_sub hl [0, 2] rfl)
            · skip
              replace h := (if_neg c_17).symm.trans h
              refine lv_iconst (v := 1) hx hb dX10_scan_84 (by decide) ?_
              refine lv_goto (tgt := 89) hx hb dX10_scan_85 (by decide) ?_
              exact B_89 cs_10 u0 u4 1 h _ _ _ hP hD hS (lv_sub hl [0, 2] rfl)
  have h := hf
  unfold c_X10_scan at h
  refine lv_aload_n hx hb dX10_scan_0 rfl (lv_at hl 0 rfl) ?_
  refine lv_aload_n hx hb dX10_scan_1 rfl (lv_at hl 1 rfl) ?_
  replace h := ob h; obtain ⟨cs_18, hv_18, h⟩ := h
  refine fpBy hx hb hts hown hK hP hD hS hv_18 dX10_scan_2 (fun H locs hP hD hS => ?_)
  refine lv_aload_n hx hb dX10_scan_5 rfl (lv_at hl 0 rfl) ?_
  refine lv_iload_n hx hb dX10_scan_6 rfl (lv_at hl 2 rfl) ?_
  refine lv_aload_n hx hb dX10_scan_7 rfl (lv_at hl 1 rfl) ?_
  replace h := ob h; obtain ⟨v_19, hv_19, h⟩ := h
  refine alen1 hx hb hK hP rfl hv_19 dX10_scan_8 ?_
  refine va_mmin (x := x2) (y := v_19) hx hb (hml.trans hl.1.symm) hown (hts _ (List.mem_cons_of_mem _ kw_505)) (hts _ (List.mem_cons_of_mem _ kw_506)) (hts _ (List.mem_cons_of_mem _ kw_190)) (hts _ (List.mem_cons_of_mem _ kc_min)) (Nat.le_of_ble_eq_true rfl) (Nat.le_of_ble_eq_true rfl) (Nat.zero_le _) (Nat.zero_le _) dX10_scan_9 ?_
  replace h := ob h; obtain ⟨cs_20, hv_20, h⟩ := h
  refine fp_X10_53 hx hb hts hown hK hP hD hS hv_20 dX10_scan_12 (fun H locs hP hD hS => ?_)
  refine lv_aload_n hx hb dX10_scan_15 rfl (lv_at hl 0 rfl) ?_
  refine lv_iconst (v := 0) hx hb dX10_scan_16 (by decide) ?_
  replace h := ob h; obtain ⟨cs_21, hv_21, h⟩ := h
  refine fp_X10_57 hx hb hts hown hK hP hD hS hv_21 dX10_scan_17 (fun H locs hP hD hS => ?_)
  refine lv_iconst (v := 1) hx hb dX10_scan_20 (by decide) ?_
  refine lv_istore_n (lv' := [(3, .int 1), (0, .ref (b + x0)), (1, .ref (b + wx1)), (2, .int x2)]) hx hb dX10_scan_21 rfl hl (by decide) rfl (fun ls hl => ?_)
  refine lv_iconst (v := 0) hx hb dX10_scan_22 (by decide) ?_
  refine lv_istore (lv' := [(4, .int 0), (3, .int 1), (0, .ref (b + x0)), (1, .ref (b + wx1)), (2, .int x2)]) hx hb dX10_scan_23 hl (by decide) rfl (fun ls hl => ?_)
  exact L_25 F cs_21 x0 1 0 h _ _ _ hP hD hS (lv_sub hl [2, 1, 0] rfl)
