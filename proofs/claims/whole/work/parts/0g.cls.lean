/-! the class, mirrored -/
theorem dX1_has_0 : decode cX1_has 0 = .ok (.iload_n 1, 1) := by decide +kernel
theorem dX1_has_1 : decode cX1_has 1 = .ok (.ifCond .lt 24, 3) := by decide +kernel
theorem dX1_has_4 : decode cX1_has 4 = .ok (.iload_n 1, 1) := by decide +kernel
theorem dX1_has_5 : decode cX1_has 5 = .ok (.aload_n 0, 1) := by decide +kernel
theorem dX1_has_6 : decode cX1_has 6 = .ok (.getfield 53, 3) := by decide +kernel
theorem dX1_has_9 : decode cX1_has 9 = .ok (.if_icmp .ge 16, 3) := by decide +kernel
theorem dX1_has_12 : decode cX1_has 12 = .ok (.iload_n 1, 1) := by decide +kernel
theorem dX1_has_13 : decode cX1_has 13 = .ok (.aload_n 0, 1) := by decide +kernel
theorem dX1_has_14 : decode cX1_has 14 = .ok (.getfield 15, 3) := by decide +kernel
theorem dX1_has_17 : decode cX1_has 17 = .ok (.arraylength, 1) := by decide +kernel
theorem dX1_has_18 : decode cX1_has 18 = .ok (.if_icmp .ge 7, 3) := by decide +kernel
theorem dX1_has_21 : decode cX1_has 21 = .ok (.iconst 1, 1) := by decide +kernel
theorem dX1_has_22 : decode cX1_has 22 = .ok (.goto 4, 3) := by decide +kernel
theorem dX1_has_25 : decode cX1_has 25 = .ok (.iconst 0, 1) := by decide +kernel
theorem dX1_has_26 : decode cX1_has 26 = .ok (.ireturn, 1) := by decide +kernel
def c_X1_has_b26 (F : Nat) (cs : CS) (y0 : Int32) : Option Int32 := Option.bind (ckZ y0) fun _ => some y0
def c_X1_has_b25 (F : Nat) (cs : CS) : Option Int32 := c_X1_has_b26 F cs 0
def c_X1_has (F : Nat) (cs : CS) (x0 : Nat) (x1 : Int32) : Option Int32 := if x1 < 0 then (c_X1_has_b25 F cs ) else (Option.bind (gI cs 2 64 x0) fun v_3 => if v_3 ≤ x1 then (c_X1_has_b25 F cs ) else (Option.bind (gA cs 2 65 x0) fun v_5 => Option.bind (lnA cs 65 x0 v_5) fun v_6 => if v_6 ≤ x1 then (c_X1_has_b25 F cs ) else (c_X1_has_b26 F cs 1)))
theorem cw_X0_X1_has {R : Room} {s : State} {args : Array Value} {y0 : MethodName} {c0 : ByteArray} {n0 : Nat} {r0 : Option FieldType} (hts : ∀ w ∈ wsOf y0 c0 n0 r0, w.before args s = true) {fr : Nat} (h1 : fr + 1 ≤ R.frames) (h2 : 8 + (2 + 11) + 60 * fr ≤ R.locals) : CallW R s args RX0 RX1 243 yX1_has cX1_has 2 (some .boolean) (wsOf yX1_has cX1_has 2 (some .boolean)) ({ frames := fr, cells := 0, slots := 0, locals := 60 * fr } : Room) 0 0 1 := cwV 1 hts (gd_all (in_V kw_1249 kw_997 kw_998 kw_189 kc_X1_has)) rfl rfl rfl (by decide +kernel) ⟨h1, h2⟩
theorem cw_X1_X1_has {R : Room} {s : State} {args : Array Value} {y0 : MethodName} {c0 : ByteArray} {n0 : Nat} {r0 : Option FieldType} (hts : ∀ w ∈ wsOf y0 c0 n0 r0, w.before args s = true) {fr : Nat} (h1 : fr + 1 ≤ R.frames) (h2 : 8 + (2 + 11) + 60 * fr ≤ R.locals) : CallW R s args RX1 RX1 62 yX1_has cX1_has 2 (some .boolean) (wsOf yX1_has cX1_has 2 (some .boolean)) ({ frames := fr, cells := 0, slots := 0, locals := 60 * fr } : Room) 0 0 1 := cwV 1 hts (gd_all (in_V kw_1417 kw_997 kw_998 kw_189 kc_X1_has)) rfl rfl rfl (by decide +kernel) ⟨h1, h2⟩
theorem cw_X4_X1_has {R : Room} {s : State} {args : Array Value} {y0 : MethodName} {c0 : ByteArray} {n0 : Nat} {r0 : Option FieldType} (hts : ∀ w ∈ wsOf y0 c0 n0 r0, w.before args s = true) {fr : Nat} (h1 : fr + 1 ≤ R.frames) (h2 : 8 + (2 + 11) + 60 * fr ≤ R.locals) : CallW R s args RX4 RX1 247 yX1_has cX1_has 2 (some .boolean) (wsOf yX1_has cX1_has 2 (some .boolean)) ({ frames := fr, cells := 0, slots := 0, locals := 60 * fr } : Room) 0 0 1 := cwV 1 hts (gd_all (in_V kw_1487 kw_997 kw_998 kw_189 kc_X1_has)) rfl rfl rfl (by decide +kernel) ⟨h1, h2⟩
theorem cw_X9_X1_has {R : Room} {s : State} {args : Array Value} {y0 : MethodName} {c0 : ByteArray} {n0 : Nat} {r0 : Option FieldType} (hts : ∀ w ∈ wsOf y0 c0 n0 r0, w.before args s = true) {fr : Nat} (h1 : fr + 1 ≤ R.frames) (h2 : 8 + (2 + 11) + 60 * fr ≤ R.locals) : CallW R s args RX9 RX1 228 yX1_has cX1_has 2 (some .boolean) (wsOf yX1_has cX1_has 2 (some .boolean)) ({ frames := fr, cells := 0, slots := 0, locals := 60 * fr } : Room) 0 0 1 := cwV 1 hts (gd_all (in_V kw_996 kw_997 kw_998 kw_189 kc_X1_has)) rfl rfl rfl (by decide +kernel) ⟨h1, h2⟩
set_option maxHeartbeats 4000000 in
set_option maxRecDepth 100000 in
theorem sc_X1_has (l : Launch) (dC : Nat → ClassId) (dI : Nat → Nat → Nat) (cB cI cJ cZ cS cO : ClassId) (b : Nat) (K V : Nat → Nat) (fz : Value) (F : Nat) (cs : CS) (x0 : Nat) (x1 : Int32) (r9 : Int32) (hf : c_X1_has F cs x0 x1 = some r9) : ocI l dC dI cB cI cJ cZ cS cO b K V fz yX1_has (wsOf yX1_has cX1_has 2 (some .boolean)) (0) [.ref (b + x0), .int x1] cs cs r9 := by
  intro sz
  refine Met.ofW (cc := cX1_has) (maxL := 2) (ret := (some .boolean)) (by decide) rfl ?_
  intro p e s m args below meth c s₁ B hml hv
  obtain ⟨rfl, hsz, hP, hK, hD0, hZ⟩ := hv
  have hx := B.exec
  have hb := B.bytes
  have hr := B.returns
  have hts := atoms_spec (ws := (wsOf yX1_has cX1_has 2 (some .boolean))) B.pre
  have hown : s.vm.findClass RX1 = some m.cls := findClass_of_methodNamed B.named
  have hlocks := B.notSynchronized
  subst hsz
  have hD := hD0.self (sz := s.heap.size)
  generalize hAe : va_A (cW cB cI cJ cZ cS cO b cs) s.heap.size = A at hD hZ ⊢
  have hA : ∀ q : Nat, s.heap.size ≤ q → A q := fun q h => by rw [← hAe]; exact Or.inr h
  have hS : va_S A s.heap s.heap [] := va_S.rf
  have hl := lv_entry ([.ref (b + x0), .int x1]) (n := 2) (Nat.le_of_ble_eq_true rfl)
  rw [lg_entry_eq]
  generalize (lg_sl ([.ref (b + x0), .int x1]) ++ List.replicate (2 - (lg_sl ([.ref (b + x0), .int x1])).length) Slot.unset).toArray = ls at hl ⊢
  have hl : lv_has ls 2 [(0, .ref (b + x0)), (1, .int x1)] := hl
  have B_26 : ∀ (y0 : Int32), c_X1_has_b26 F cs y0 = some r9 → ∀ (H : Heap) (locs : List Loc) (ls : Array Slot), va_P (dC, dI) vwCl (cW cB cI cJ cZ cS cO b cs) H → va_D A (cW cB cI cJ cZ cS cO b cs) → va_S A s.heap H locs → lv_has ls 2 [] → W p l e (headSpec (wsOf yX1_has cX1_has 2 (some .boolean)) ({ frames := 0, cells := 0, slots := 0, locals := 60 * (0) } : Room)).room s m ([.ref (b + x0), .int x1] : List Value).toArray below meth c H locs 0 0 (MQ below (va_Qi (fun (x : Int32) (_ : Unit) => x = r9) (fun _ t_ => va_P (dC, dI) vwCl (cW cB cI cJ cZ cS cO b cs) t_.heap ∧ va_D A (cW cB cI cJ cZ cS cO b cs)) A) ([.ref (b + x0), .int x1] : List Value).toArray s 0 0 A) (F0 m 26 ls [.int y0]) := by
    intro y0 h H locs ls hP hD hS hl
    unfold c_X1_has_b26 at h
    replace h := ob h; obtain ⟨w_1, hw_1, h⟩ := h
    have e2 := Option.some.inj h
    exact W.zret (v := y0) hx hb hr (nzN (ckZ_some hw_1)) (fun t_ ht hW => ⟨⟨y0, (), rfl, e2, by rw [ht]; exact hP, hD⟩, hS.F ht⟩) hS.2.2 dX1_has_26
  have B_25 : c_X1_has_b25 F cs = some r9 → ∀ (H : Heap) (locs : List Loc) (ls : Array Slot), va_P (dC, dI) vwCl (cW cB cI cJ cZ cS cO b cs) H → va_D A (cW cB cI cJ cZ cS cO b cs) → va_S A s.heap H locs → lv_has ls 2 [] → W p l e (headSpec (wsOf yX1_has cX1_has 2 (some .boolean)) ({ frames := 0, cells := 0, slots := 0, locals := 60 * (0) } : Room)).room s m ([.ref (b + x0), .int x1] : List Value).toArray below meth c H locs 0 0 (MQ below (va_Qi (fun (x : Int32) (_ : Unit) => x = r9) (fun _ t_ => va_P (dC, dI) vwCl (cW cB cI cJ cZ cS cO b cs) t_.heap ∧ va_D A (cW cB cI cJ cZ cS cO b cs)) A) ([.ref (b + x0), .int x1] : List Value).toArray s 0 0 A) (F0 m 25 ls []) := by
    intro  h H locs ls hP hD hS hl
    unfold c_X1_has_b25 at h
    refine lv_iconst (v := 0) hx hb dX1_has_25 (by decide) ?_
    exact B_26 0 h _ _ _ hP hD hS (lv_sub hl [] rfl)
  have h := hf
  unfold c_X1_has at h
  refine lv_iload_n hx hb dX1_has_0 rfl (lv_at hl 1 rfl) ?_
  refine lv_if_lt (tgt := 25) hx hb dX1_has_1 (by decide) (fun c_2 => ?_) (fun c_2 => ?_)
  · skip
    replace h := (if_pos c_2).symm.trans h
    exact B_25  h _ _ _ hP hD hS (lv_sub hl [] rfl)
  · skip
    replace h := (if_neg c_2).symm.trans h
    refine lv_iload_n hx hb dX1_has_4 rfl (lv_at hl 1 rfl) ?_
    refine lv_aload_n hx hb dX1_has_5 rfl (lv_at hl 0 rfl) ?_
    replace h := ob h; obtain ⟨v_3, hv_3, h⟩ := h
    refine fg_X1_53 hx hb hts hown hK hP hv_3 dX1_has_6 ?_
    refine lv_icmp_ge (tgt := 25) hx hb dX1_has_9 (by decide) (fun c_4 => ?_) (fun c_4 => ?_)
    · skip
      replace h := (if_pos c_4).symm.trans h
      exact B_25  h _ _ _ hP hD hS (lv_sub hl [] rfl)
    · skip
      replace h := (if_neg c_4).symm.trans h
      refine lv_iload_n hx hb dX1_has_12 rfl (lv_at hl 1 rfl) ?_
      refine lv_aload_n hx hb dX1_has_13 rfl (lv_at hl 0 rfl) ?_
      replace h := ob h; obtain ⟨v_5, hv_5, h⟩ := h
      refine fg_X1_15 hx hb hts hown hK hP hv_5 dX1_has_14 ?_
      replace h := ob h; obtain ⟨v_6, hv_6, h⟩ := h
      refine alen0 hx hb hK hP rfl hv_6 dX1_has_17 ?_
      refine lv_icmp_ge (tgt := 25) hx hb dX1_has_18 (by decide) (fun c_7 => ?_) (fun c_7 => ?_)
      · skip
        replace h := (if_pos c_7).symm.trans h
        exact B_25  h _ _ _ hP hD hS (lv_sub hl [] rfl)
      · skip
        replace h := (if_neg c_7).symm.trans h
        refine lv_iconst (v := 1) hx hb dX1_has_21 (by decide) ?_
        refine lv_goto (tgt := 26) hx hb dX1_has_22 (by decide) ?_
        exact B_26 1 h _ _ _ hP hD hS (lv_sub hl [] rfl)
theorem dX1_add_0 : decode cX1_add 0 = .ok (.aload_n 0, 1) := by decide +kernel
theorem dX1_add_1 : decode cX1_add 1 = .ok (.getfield 53, 3) := by decide +kernel
theorem dX1_add_4 : decode cX1_add 4 = .ok (.aload_n 0, 1) := by decide +kernel
theorem dX1_add_5 : decode cX1_add 5 = .ok (.getfield 15, 3) := by decide +kernel
theorem dX1_add_8 : decode cX1_add 8 = .ok (.arraylength, 1) := by decide +kernel
theorem dX1_add_9 : decode cX1_add 9 = .ok (.if_icmp .lt 5, 3) := by decide +kernel
theorem dX1_add_12 : decode cX1_add 12 = .ok (.iconst (-1), 1) := by decide +kernel
theorem dX1_add_13 : decode cX1_add 13 = .ok (.ireturn, 1) := by decide +kernel
theorem dX1_add_14 : decode cX1_add 14 = .ok (.aload_n 0, 1) := by decide +kernel
theorem dX1_add_15 : decode cX1_add 15 = .ok (.getfield 53, 3) := by decide +kernel
theorem dX1_add_18 : decode cX1_add 18 = .ok (.istore 5, 2) := by decide +kernel
theorem dX1_add_20 : decode cX1_add 20 = .ok (.aload_n 0, 1) := by decide +kernel
theorem dX1_add_21 : decode cX1_add 21 = .ok (.dup, 1) := by decide +kernel
theorem dX1_add_22 : decode cX1_add 22 = .ok (.getfield 53, 3) := by decide +kernel
theorem dX1_add_25 : decode cX1_add 25 = .ok (.iconst 1, 1) := by decide +kernel
theorem dX1_add_26 : decode cX1_add 26 = .ok (.iadd, 1) := by decide +kernel
theorem dX1_add_27 : decode cX1_add 27 = .ok (.putfield 53, 3) := by decide +kernel
theorem dX1_add_30 : decode cX1_add 30 = .ok (.aload_n 0, 1) := by decide +kernel
theorem dX1_add_31 : decode cX1_add 31 = .ok (.getfield 15, 3) := by decide +kernel
theorem dX1_add_34 : decode cX1_add 34 = .ok (.iload 5, 2) := by decide +kernel
theorem dX1_add_36 : decode cX1_add 36 = .ok (.iload_n 1, 1) := by decide +kernel
theorem dX1_add_37 : decode cX1_add 37 = .ok (.iastore, 1) := by decide +kernel
theorem dX1_add_38 : decode cX1_add 38 = .ok (.aload_n 0, 1) := by decide +kernel
theorem dX1_add_39 : decode cX1_add 39 = .ok (.getfield 21, 3) := by decide +kernel
theorem dX1_add_42 : decode cX1_add 42 = .ok (.iload 5, 2) := by decide +kernel
theorem dX1_add_44 : decode cX1_add 44 = .ok (.iload_n 3, 1) := by decide +kernel
theorem dX1_add_45 : decode cX1_add 45 = .ok (.iastore, 1) := by decide +kernel
theorem dX1_add_46 : decode cX1_add 46 = .ok (.aload_n 0, 1) := by decide +kernel
theorem dX1_add_47 : decode cX1_add 47 = .ok (.getfield 24, 3) := by decide +kernel
theorem dX1_add_50 : decode cX1_add 50 = .ok (.iload 5, 2) := by decide +kernel
theorem dX1_add_52 : decode cX1_add 52 = .ok (.iload_n 2, 1) := by decide +kernel
theorem dX1_add_53 : decode cX1_add 53 = .ok (.ifCond .lt 13, 3) := by decide +kernel
theorem dX1_add_56 : decode cX1_add 56 = .ok (.iload_n 2, 1) := by decide +kernel
theorem dX1_add_57 : decode cX1_add 57 = .ok (.iload 5, 2) := by decide +kernel
theorem dX1_add_59 : decode cX1_add 59 = .ok (.if_icmp .gt 7, 3) := by decide +kernel
theorem dX1_add_62 : decode cX1_add 62 = .ok (.iload_n 2, 1) := by decide +kernel
theorem dX1_add_63 : decode cX1_add 63 = .ok (.goto 5, 3) := by decide +kernel
theorem dX1_add_66 : decode cX1_add 66 = .ok (.iload 5, 2) := by decide +kernel
theorem dX1_add_68 : decode cX1_add 68 = .ok (.iastore, 1) := by decide +kernel
theorem dX1_add_69 : decode cX1_add 69 = .ok (.aload_n 0, 1) := by decide +kernel
theorem dX1_add_70 : decode cX1_add 70 = .ok (.getfield 27, 3) := by decide +kernel
theorem dX1_add_73 : decode cX1_add 73 = .ok (.iload 5, 2) := by decide +kernel
theorem dX1_add_75 : decode cX1_add 75 = .ok (.iload 4, 2) := by decide +kernel
theorem dX1_add_77 : decode cX1_add 77 = .ok (.iastore, 1) := by decide +kernel
theorem dX1_add_78 : decode cX1_add 78 = .ok (.aload_n 0, 1) := by decide +kernel
theorem dX1_add_79 : decode cX1_add 79 = .ok (.getfield 34, 3) := by decide +kernel
theorem dX1_add_82 : decode cX1_add 82 = .ok (.iload 5, 2) := by decide +kernel
theorem dX1_add_84 : decode cX1_add 84 = .ok (.ldc2_w 57, 3) := by decide +kernel
theorem dX1_add_87 : decode cX1_add 87 = .ok (.lastore, 1) := by decide +kernel
theorem dX1_add_88 : decode cX1_add 88 = .ok (.aload_n 0, 1) := by decide +kernel
theorem dX1_add_89 : decode cX1_add 89 = .ok (.getfield 37, 3) := by decide +kernel
theorem dX1_add_92 : decode cX1_add 92 = .ok (.iload 5, 2) := by decide +kernel
theorem dX1_add_94 : decode cX1_add 94 = .ok (.iconst (-1), 1) := by decide +kernel
theorem dX1_add_95 : decode cX1_add 95 = .ok (.iastore, 1) := by decide +kernel
theorem dX1_add_96 : decode cX1_add 96 = .ok (.iload 5, 2) := by decide +kernel
theorem dX1_add_98 : decode cX1_add 98 = .ok (.ireturn, 1) := by decide +kernel
def c_X1_add_b68 (F : Nat) (cs1 : CS) (u0 : Nat) (u4 : Int32) (u5 : Int32) (y0 : Int32) (y1 : Int32) (y2 : Nat) (wy2 : Nat) : Option (CS × Int32) := Option.bind (wA cs1 67 y2 wy2 y1 y0) fun cs_1 => Option.bind (gA cs_1 2 68 u0) fun v_2 => Option.bind (wA cs_1 68 u0 v_2 u5 u4) fun cs_3 => Option.bind (gA cs_3 2 70 u0) fun v_4 => Option.bind (wB cs_3 70 u0 v_4 u5 (-1)) fun cs_5 => Option.bind (gA cs_5 2 71 u0) fun v_6 => Option.bind (wA cs_5 71 u0 v_6 u5 (-1)) fun cs_7 => some (cs_7, u5)
def c_X1_add_b66 (F : Nat) (cs1 : CS) (u0 : Nat) (u4 : Int32) (u5 : Int32) (y0 : Int32) (y1 : Nat) (wy1 : Nat) : Option (CS × Int32) := c_X1_add_b68 F cs1 u0 u4 u5 u5 y0 y1 wy1
def c_X1_add (F : Nat) (cs : CS) (x0 : Nat) (x1 : Int32) (x2 : Int32) (x3 : Int32) (x4 : Int32) : Option (CS × Int32) := Option.bind (gI cs 2 64 x0) fun v_8 => Option.bind (gA cs 2 65 x0) fun v_9 => Option.bind (lnA cs 65 x0 v_9) fun v_10 => if v_8 < v_10 then (Option.bind (gI cs 2 64 x0) fun v_12 => Option.bind (gI cs 2 64 x0) fun v_13 => Option.bind (pI cs 2 64 x0 (v_13 + 1)) fun cs_14 => Option.bind (gA cs_14 2 65 x0) fun v_15 => Option.bind (wA cs_14 65 x0 v_15 v_12 x1) fun cs_16 => Option.bind (gA cs_16 2 66 x0) fun v_17 => Option.bind (wA cs_16 66 x0 v_17 v_12 x3) fun cs_18 => Option.bind (gA cs_18 2 67 x0) fun v_19 => if x2 < 0 then (c_X1_add_b66 F cs_18 x0 x4 v_12 v_12 x0 v_19) else (if v_12 < x2 then (c_X1_add_b66 F cs_18 x0 x4 v_12 v_12 x0 v_19) else (c_X1_add_b68 F cs_18 x0 x4 v_12 x2 v_12 x0 v_19))) else (some (cs, (-1)))
theorem cw_X9_X1_add {R : Room} {s : State} {args : Array Value} {y0 : MethodName} {c0 : ByteArray} {n0 : Nat} {r0 : Option FieldType} (hts : ∀ w ∈ wsOf y0 c0 n0 r0, w.before args s = true) {fr : Nat} (h1 : fr + 1 ≤ R.frames) (h2 : 8 + (6 + 11) + 60 * fr ≤ R.locals) : CallW R s args RX9 RX1 299 yX1_add cX1_add 6 (some .int) (wsOf yX1_add cX1_add 6 (some .int)) ({ frames := fr, cells := 0, slots := 0, locals := 60 * fr } : Room) 0 0 4 := cwV 4 hts (gd_all (in_V kw_991 kw_992 kw_993 kw_189 kc_X1_add)) rfl rfl rfl (by decide +kernel) ⟨h1, h2⟩
set_option maxHeartbeats 4000000 in
set_option maxRecDepth 100000 in
theorem sc_X1_add (l : Launch) (dC : Nat → ClassId) (dI : Nat → Nat → Nat) (cB cI cJ cZ cS cO : ClassId) (b : Nat) (K V : Nat → Nat) (fz : Value) (F : Nat) (cs : CS) (x0 : Nat) (x1 : Int32) (x2 : Int32) (x3 : Int32) (x4 : Int32) (cs9 : CS) (r9 : Int32) (hf : c_X1_add F cs x0 x1 x2 x3 x4 = some (cs9, r9)) : ocI l dC dI cB cI cJ cZ cS cO b K V fz yX1_add (wsOf yX1_add cX1_add 6 (some .int)) (0) [.ref (b + x0), .int x1, .int x2, .int x3, .int x4] cs cs9 r9 := by
  intro sz
  refine Met.ofW (cc := cX1_add) (maxL := 6) (ret := (some .int)) (by decide) rfl ?_
  intro p e s m args below meth c s₁ B hml hv
  obtain ⟨rfl, hsz, hP, hK, hD0, hZ⟩ := hv
  have hx := B.exec
  have hb := B.bytes
  have hr := B.returns
  have hts := atoms_spec (ws := (wsOf yX1_add cX1_add 6 (some .int))) B.pre
  have hown : s.vm.findClass RX1 = some m.cls := findClass_of_methodNamed B.named
  have hlocks := B.notSynchronized
  subst hsz
  have hD := hD0.self (sz := s.heap.size)
  generalize hAe : va_A (cW cB cI cJ cZ cS cO b cs) s.heap.size = A at hD hZ ⊢
  have hA : ∀ q : Nat, s.heap.size ≤ q → A q := fun q h => by rw [← hAe]; exact Or.inr h
  have hS : va_S A s.heap s.heap [] := va_S.rf
  have hl := lv_entry ([.ref (b + x0), .int x1, .int x2, .int x3, .int x4]) (n := 6) (Nat.le_of_ble_eq_true rfl)
  rw [lg_entry_eq]
  generalize (lg_sl ([.ref (b + x0), .int x1, .int x2, .int x3, .int x4]) ++ List.replicate (6 - (lg_sl ([.ref (b + x0), .int x1, .int x2, .int x3, .int x4])).length) Slot.unset).toArray = ls at hl ⊢
  have hl : lv_has ls 6 [(0, .ref (b + x0)), (1, .int x1), (2, .int x2), (3, .int x3), (4, .int x4)] := hl
  have B_68 : ∀ (cs1 : CS) (u0 : Nat) (u4 : Int32) (u5 : Int32) (y0 : Int32) (y1 : Int32) (y2 : Nat) (wy2 : Nat), c_X1_add_b68 F cs1 u0 u4 u5 y0 y1 y2 wy2 = some (cs9, r9) → ∀ (H : Heap) (locs : List Loc) (ls : Array Slot), va_P (dC, dI) vwCl (cW cB cI cJ cZ cS cO b cs1) H → va_D A (cW cB cI cJ cZ cS cO b cs1) → va_S A s.heap H locs → lv_has ls 6 [(0, .ref (b + u0)), (4, .int u4), (5, .int u5)] → W p l e (headSpec (wsOf yX1_add cX1_add 6 (some .int)) ({ frames := 0, cells := 0, slots := 0, locals := 60 * (0) } : Room)).room s m ([.ref (b + x0), .int x1, .int x2, .int x3, .int x4] : List Value).toArray below meth c H locs 0 0 (MQ below (va_Qi (fun (x : Int32) (_ : Unit) => x = r9) (fun _ t_ => va_P (dC, dI) vwCl (cW cB cI cJ cZ cS cO b cs9) t_.heap ∧ va_D A (cW cB cI cJ cZ cS cO b cs9)) A) ([.ref (b + x0), .int x1, .int x2, .int x3, .int x4] : List Value).toArray s 0 0 A) (F0 m 68 ls [.int y0, .int y1, .ref (b + wy2)]) := by
    intro cs1 u0 u4 u5 y0 y1 y2 wy2 h H locs ls hP hD hS hl
    unfold c_X1_add_b68 at h
    replace h := ob h; obtain ⟨cs_1, hv_1, h⟩ := h
    refine ast0 hx hb hK hP hD hS rfl hv_1 dX1_add_68 (fun H locs hP hD hS => ?_)
    refine lv_aload_n hx hb dX1_add_69 rfl (lv_at hl 0 rfl) ?_
    replace h := ob h; obtain ⟨v_2, hv_2, h⟩ := h
    refine fg_X1_27 hx hb hts hown hK hP hv_2 dX1_add_70 ?_
    refine lv_iload hx hb dX1_add_73 (lv_at hl 2 rfl) ?_
    refine lv_iload hx hb dX1_add_75 (lv_at hl 1 rfl) ?_
    replace h := ob h; obtain ⟨cs_3, hv_3, h⟩ := h
    refine ast0 hx hb hK hP hD hS rfl hv_3 dX1_add_77 (fun H locs hP hD hS => ?_)
    refine lv_aload_n hx hb dX1_add_78 rfl (lv_at hl 0 rfl) ?_
    replace h := ob h; obtain ⟨v_4, hv_4, h⟩ := h
    refine fg_X1_34 hx hb hts hown hK hP hv_4 dX1_add_79 ?_
    refine lv_iload hx hb dX1_add_82 (lv_at hl 2 rfl) ?_
    refine lv_ldc2 hx hb hown (hts _ (List.mem_cons_of_mem _ kw_995)) dX1_add_84 ?_
    replace h := ob h; obtain ⟨cs_5, hv_5, h⟩ := h
    refine ast2 hx hb hK hP hD hS rfl hv_5 dX1_add_87 (fun H locs hP hD hS => ?_)
    refine lv_aload_n hx hb dX1_add_88 rfl (lv_at hl 0 rfl) ?_
    replace h := ob h; obtain ⟨v_6, hv_6, h⟩ := h
    refine fg_X1_37 hx hb hts hown hK hP hv_6 dX1_add_89 ?_
    refine lv_iload hx hb dX1_add_92 (lv_at hl 2 rfl) ?_
    refine lv_iconst (v := (-1)) hx hb dX1_add_94 (by decide) ?_
    replace h := ob h; obtain ⟨cs_7, hv_7, h⟩ := h
    refine ast0 hx hb hK hP hD hS rfl hv_7 dX1_add_95 (fun H locs hP hD hS => ?_)
    refine lv_iload hx hb dX1_add_96 (lv_at hl 2 rfl) ?_
    obtain ⟨e1, e2⟩ := Prod.mk.inj (Option.some.inj h)
    rw [e1] at hP hD
    exact W.iret (v := u5) hx hb hr (fun t_ ht hW => ⟨⟨u5, (), rfl, e2, by rw [ht]; exact hP, hD⟩, hS.F ht⟩) hS.2.2 dX1_add_98
  have B_66 : ∀ (cs1 : CS) (u0 : Nat) (u4 : Int32) (u5 : Int32) (y0 : Int32) (y1 : Nat) (wy1 : Nat), c_X1_add_b66 F cs1 u0 u4 u5 y0 y1 wy1 = some (cs9, r9) → ∀ (H : Heap) (locs : List Loc) (ls : Array Slot), va_P (dC, dI) vwCl (cW cB cI cJ cZ cS cO b cs1) H → va_D A (cW cB cI cJ cZ cS cO b cs1) → va_S A s.heap H locs → lv_has ls 6 [(0, .ref (b + u0)), (4, .int u4), (5, .int u5)] → W p l e (headSpec (wsOf yX1_add cX1_add 6 (some .int)) ({ frames := 0, cells := 0, slots := 0, locals := 60 * (0) } : Room)).room s m ([.ref (b + x0), .int x1, .int x2, .int x3, .int x4] : List Value).toArray below meth c H locs 0 0 (MQ below (va_Qi (fun (x : Int32) (_ : Unit) => x = r9) (fun _ t_ => va_P (dC, dI) vwCl (cW cB cI cJ cZ cS cO b cs9) t_.heap ∧ va_D A (cW cB cI cJ cZ cS cO b cs9)) A) ([.ref (b + x0), .int x1, .int x2, .int x3, .int x4] : List Value).toArray s 0 0 A) (F0 m 66 ls [.int y0, .ref (b + wy1)]) := by
    intro cs1 u0 u4 u5 y0 y1 wy1 h H locs ls hP hD hS hl
    unfold c_X1_add_b66 at h
    refine lv_iload hx hb dX1_add_66 (lv_at hl 2 rfl) ?_
    exact B_68 cs1 u0 u4 u5 u5 y0 y1 wy1 h _ _ _ hP hD hS (lv_sub hl [0, 1, 2] rfl)
  have h := hf
  unfold c_X1_add at h
  refine lv_aload_n hx hb dX1_add_0 rfl (lv_at hl 0 rfl) ?_
  replace h := ob h; obtain ⟨v_8, hv_8, h⟩ := h
  refine fg_X1_53 hx hb hts hown hK hP hv_8 dX1_add_1 ?_
  refine lv_aload_n hx hb dX1_add_4 rfl (lv_at hl 0 rfl) ?_
  replace h := ob h; obtain ⟨v_9, hv_9, h⟩ := h
  refine fg_X1_15 hx hb hts hown hK hP hv_9 dX1_add_5 ?_
  replace h := ob h; obtain ⟨v_10, hv_10, h⟩ := h
  refine alen0 hx hb hK hP rfl hv_10 dX1_add_8 ?_
  refine lv_icmp_lt (tgt := 14) hx hb dX1_add_9 (by decide) (fun c_11 => ?_) (fun c_11 => ?_)
  · skip
    replace h := (if_pos c_11).symm.trans h
    refine lv_aload_n hx hb dX1_add_14 rfl (lv_at hl 0 rfl) ?_
    replace h := ob h; obtain ⟨v_12, hv_12, h⟩ := h
    refine fg_X1_53 hx hb hts hown hK hP hv_12 dX1_add_15 ?_
    refine lv_istore (lv' := [(5, .int v_12), (0, .ref (b + x0)), (1, .int x1), (2, .int x2), (3, .int x3), (4, .int x4)]) hx hb dX1_add_18 hl (by decide) rfl (fun ls hl => ?_)
    refine lv_aload_n hx hb dX1_add_20 rfl (lv_at hl 1 rfl) ?_
    refine lv_dup hx hb dX1_add_21 rfl ?_
    replace h := ob h; obtain ⟨v_13, hv_13, h⟩ := h
    refine fg_X1_53 hx hb hts hown hK hP hv_13 dX1_add_22 ?_
    refine lv_iconst (v := 1) hx hb dX1_add_25 (by decide) ?_
    refine lv_iadd hx hb dX1_add_26 ?_
    replace h := ob h; obtain ⟨cs_14, hv_14, h⟩ := h
    refine fp_X1_53 hx hb hts hown hK hP hD hS hv_14 dX1_add_27 (fun H locs hP hD hS => ?_)
    refine lv_aload_n hx hb dX1_add_30 rfl (lv_at hl 1 rfl) ?_
    replace h := ob h; obtain ⟨v_15, hv_15, h⟩ := h
    refine fg_X1_15 hx hb hts hown hK hP hv_15 dX1_add_31 ?_
    refine lv_iload hx hb dX1_add_34 (lv_at hl 0 rfl) ?_
    refine lv_iload_n hx hb dX1_add_36 rfl (lv_at hl 2 rfl) ?_
    replace h := ob h; obtain ⟨cs_16, hv_16, h⟩ := h
    refine ast0 hx hb hK hP hD hS rfl hv_16 dX1_add_37 (fun H locs hP hD hS => ?_)
    refine lv_aload_n hx hb dX1_add_38 rfl (lv_at hl 1 rfl) ?_
    replace h := ob h; obtain ⟨v_17, hv_17, h⟩ := h
    refine fg_X1_21 hx hb hts hown hK hP hv_17 dX1_add_39 ?_
    refine lv_iload hx hb dX1_add_42 (lv_at hl 0 rfl) ?_
    refine lv_iload_n hx hb dX1_add_44 rfl (lv_at hl 4 rfl) ?_
    replace h := ob h; obtain ⟨cs_18, hv_18, h⟩ := h
    refine ast0 hx hb hK hP hD hS rfl hv_18 dX1_add_45 (fun H locs hP hD hS => ?_)
    refine lv_aload_n hx hb dX1_add_46 rfl (lv_at hl 1 rfl) ?_
    replace h := ob h; obtain ⟨v_19, hv_19, h⟩ := h
    refine fg_X1_24 hx hb hts hown hK hP hv_19 dX1_add_47 ?_
    refine lv_iload hx hb dX1_add_50 (lv_at hl 0 rfl) ?_
    refine lv_iload_n hx hb dX1_add_52 rfl (lv_at hl 3 rfl) ?_
    refine lv_if_lt (tgt := 66) hx hb dX1_add_53 (by decide) (fun c_20 => ?_) (fun c_20 => ?_)
    · skip
      replace h := (if_pos c_20).symm.trans h
      exact B_66 cs_18 x0 x4 v_12 v_12 x0 v_19 h _ _ _ hP hD hS (lv_sub hl [1, 5, 0] rfl)
    · skip
      replace h := (if_neg c_20).symm.trans h
      refine lv_iload_n hx hb dX1_add_56 rfl (lv_at hl 3 rfl) ?_
      refine lv_iload hx hb dX1_add_57 (lv_at hl 0 rfl) ?_
      refine lv_icmp_gt (tgt := 66) hx hb dX1_add_59 (by decide) (fun c_21 => ?_) (fun c_21 => ?_)
      · skip
        replace h := (if_pos c_21).symm.trans h
        exact B_66 cs_18 x0 x4 v_12 v_12 x0 v_19 h _ _ _ hP hD hS (lv_sub hl [1, 5, 0] rfl)
      · skip
        replace h := (if_neg c_21).symm.trans h
        refine lv_iload_n hx hb dX1_add_62 rfl (lv_at hl 3 rfl) ?_
        refine lv_goto (tgt := 68) hx hb dX1_add_63 (by decide) ?_
        exact B_68 cs_18 x0 x4 v_12 x2 v_12 x0 v_19 h _ _ _ hP hD hS (lv_sub hl [1, 5, 0] rfl)
  · skip
    replace h := (if_neg c_11).symm.trans h
    refine lv_iconst (v := (-1)) hx hb dX1_add_12 (by decide) ?_
    obtain ⟨e1, e2⟩ := Prod.mk.inj (Option.some.inj h)
    rw [e1] at hP hD
    exact W.iret (v := (-1)) hx hb hr (fun t_ ht hW => ⟨⟨(-1), (), rfl, e2, by rw [ht]; exact hP, hD⟩, hS.F ht⟩) hS.2.2 dX1_add_13
theorem dX1_push_0 : decode cX1_push 0 = .ok (.aload_n 0, 1) := by decide +kernel
theorem dX1_push_1 : decode cX1_push 1 = .ok (.getfield 59, 3) := by decide +kernel
theorem dX1_push_4 : decode cX1_push 4 = .ok (.aload_n 0, 1) := by decide +kernel
theorem dX1_push_5 : decode cX1_push 5 = .ok (.getfield 46, 3) := by decide +kernel
theorem dX1_push_8 : decode cX1_push 8 = .ok (.arraylength, 1) := by decide +kernel
theorem dX1_push_9 : decode cX1_push 9 = .ok (.if_icmp .ge 54, 3) := by decide +kernel
theorem dX1_push_12 : decode cX1_push 12 = .ok (.aload_n 0, 1) := by decide +kernel
theorem dX1_push_13 : decode cX1_push 13 = .ok (.getfield 59, 3) := by decide +kernel
theorem dX1_push_16 : decode cX1_push 16 = .ok (.aload_n 0, 1) := by decide +kernel
theorem dX1_push_17 : decode cX1_push 17 = .ok (.getfield 49, 3) := by decide +kernel
theorem dX1_push_20 : decode cX1_push 20 = .ok (.arraylength, 1) := by decide +kernel
theorem dX1_push_21 : decode cX1_push 21 = .ok (.if_icmp .ge 42, 3) := by decide +kernel
theorem dX1_push_24 : decode cX1_push 24 = .ok (.aload_n 0, 1) := by decide +kernel
theorem dX1_push_25 : decode cX1_push 25 = .ok (.getfield 46, 3) := by decide +kernel
theorem dX1_push_28 : decode cX1_push 28 = .ok (.aload_n 0, 1) := by decide +kernel
theorem dX1_push_29 : decode cX1_push 29 = .ok (.getfield 59, 3) := by decide +kernel
theorem dX1_push_32 : decode cX1_push 32 = .ok (.iload_n 3, 1) := by decide +kernel
theorem dX1_push_33 : decode cX1_push 33 = .ok (.ifCond .eq 7, 3) := by decide +kernel
theorem dX1_push_36 : decode cX1_push 36 = .ok (.lconst 0, 1) := by decide +kernel
theorem dX1_push_37 : decode cX1_push 37 = .ok (.goto 4, 3) := by decide +kernel
theorem dX1_push_40 : decode cX1_push 40 = .ok (.lload_n 1, 1) := by decide +kernel
theorem dX1_push_41 : decode cX1_push 41 = .ok (.lastore, 1) := by decide +kernel
theorem dX1_push_42 : decode cX1_push 42 = .ok (.aload_n 0, 1) := by decide +kernel
theorem dX1_push_43 : decode cX1_push 43 = .ok (.getfield 49, 3) := by decide +kernel
theorem dX1_push_46 : decode cX1_push 46 = .ok (.aload_n 0, 1) := by decide +kernel
theorem dX1_push_47 : decode cX1_push 47 = .ok (.getfield 59, 3) := by decide +kernel
theorem dX1_push_50 : decode cX1_push 50 = .ok (.iload_n 3, 1) := by decide +kernel
theorem dX1_push_51 : decode cX1_push 51 = .ok (.i2b, 1) := by decide +kernel
theorem dX1_push_52 : decode cX1_push 52 = .ok (.bastore, 1) := by decide +kernel
theorem dX1_push_53 : decode cX1_push 53 = .ok (.aload_n 0, 1) := by decide +kernel
theorem dX1_push_54 : decode cX1_push 54 = .ok (.dup, 1) := by decide +kernel
theorem dX1_push_55 : decode cX1_push 55 = .ok (.getfield 59, 3) := by decide +kernel
theorem dX1_push_58 : decode cX1_push 58 = .ok (.iconst 1, 1) := by decide +kernel
theorem dX1_push_59 : decode cX1_push 59 = .ok (.iadd, 1) := by decide +kernel
theorem dX1_push_60 : decode cX1_push 60 = .ok (.putfield 59, 3) := by decide +kernel
theorem dX1_push_63 : decode cX1_push 63 = .ok (.return_, 1) := by decide +kernel
def c_X1_push_b63 (F : Nat) (cs1 : CS) : Option CS := some cs1
def c_X1_push_b41 (F : Nat) (cs1 : CS) (u0 : Nat) (u3 : Int32) (y0 : Int64) (y1 : Int32) (y2 : Nat) (wy2 : Nat) : Option CS := Option.bind (wB cs1 74 y2 wy2 y1 y0) fun cs_1 => Option.bind (gA cs_1 2 75 u0) fun v_2 => Option.bind (gI cs_1 2 76 u0) fun v_3 => Option.bind (wA cs_1 75 u0 v_2 v_3 (vp_nar .byte u3.toInt8.toInt32)) fun cs_4 => Option.bind (gI cs_4 2 76 u0) fun v_5 => Option.bind (pI cs_4 2 76 u0 (v_5 + 1)) fun cs_6 => c_X1_push_b63 F cs_6
def c_X1_push (F : Nat) (cs : CS) (x0 : Nat) (x1 : Int64) (x3 : Int32) : Option CS := Option.bind (gI cs 2 76 x0) fun v_7 => Option.bind (gA cs 2 74 x0) fun v_8 => Option.bind (lnA cs 74 x0 v_8) fun v_9 => if v_9 ≤ v_7 then (c_X1_push_b63 F cs) else (Option.bind (gI cs 2 76 x0) fun v_11 => Option.bind (gA cs 2 75 x0) fun v_12 => Option.bind (lnA cs 75 x0 v_12) fun v_13 => if v_13 ≤ v_11 then (c_X1_push_b63 F cs) else (Option.bind (gA cs 2 74 x0) fun v_15 => Option.bind (gI cs 2 76 x0) fun v_16 => if x3 = 0 then (c_X1_push_b41 F cs x0 x3 x1 v_16 x0 v_15) else (c_X1_push_b41 F cs x0 x3 0 v_16 x0 v_15)))
theorem cw_X1_X1_push {R : Room} {s : State} {args : Array Value} {y0 : MethodName} {c0 : ByteArray} {n0 : Nat} {r0 : Option FieldType} (hts : ∀ w ∈ wsOf y0 c0 n0 r0, w.before args s = true) {fr : Nat} (h1 : fr + 1 ≤ R.frames) (h2 : 8 + (4 + 11) + 60 * fr ≤ R.locals) : CallW R s args RX1 RX1 66 yX1_push cX1_push 4 none (wsOf yX1_push cX1_push 4 none) ({ frames := fr, cells := 0, slots := 0, locals := 60 * fr } : Room) 0 0 2 := cwV 2 hts (gd_all (in_V kw_1418 kw_1420 kw_73 kw_189 kc_X1_push)) rfl rfl rfl (by decide +kernel) ⟨h1, h2⟩
set_option maxHeartbeats 4000000 in
set_option maxRecDepth 100000 in
theorem sc_X1_push (l : Launch) (dC : Nat → ClassId) (dI : Nat → Nat → Nat) (cB cI cJ cZ cS cO : ClassId) (b : Nat) (K V : Nat → Nat) (fz : Value) (F : Nat) (cs : CS) (x0 : Nat) (x1 : Int64) (x3 : Int32) (cs9 : CS) (hf : c_X1_push F cs x0 x1 x3 = some cs9) : ocV l dC dI cB cI cJ cZ cS cO b K V fz yX1_push (wsOf yX1_push cX1_push 4 none) (0) [.ref (b + x0), .long x1, .int x3] cs cs9 := by
  intro sz
  refine Met.ofW (cc := cX1_push) (maxL := 4) (ret := none) (by decide) rfl ?_
  intro p e s m args below meth c s₁ B hml hv
  obtain ⟨rfl, hsz, hP, hK, hD0, hZ⟩ := hv
  have hx := B.exec
  have hb := B.bytes
  have hr := B.returns
  have hts := atoms_spec (ws := (wsOf yX1_push cX1_push 4 none)) B.pre
  have hown : s.vm.findClass RX1 = some m.cls := findClass_of_methodNamed B.named
  have hlocks := B.notSynchronized
  subst hsz
  have hD := hD0.self (sz := s.heap.size)
  generalize hAe : va_A (cW cB cI cJ cZ cS cO b cs) s.heap.size = A at hD hZ ⊢
  have hA : ∀ q : Nat, s.heap.size ≤ q → A q := fun q h => by rw [← hAe]; exact Or.inr h
  have hS : va_S A s.heap s.heap [] := va_S.rf
  have hl := lv_entry ([.ref (b + x0), .long x1, .int x3]) (n := 4) (Nat.le_of_ble_eq_true rfl)
  rw [lg_entry_eq]
  generalize (lg_sl ([.ref (b + x0), .long x1, .int x3]) ++ List.replicate (4 - (lg_sl ([.ref (b + x0), .long x1, .int x3])).length) Slot.unset).toArray = ls at hl ⊢
  have hl : lv_has ls 4 [(0, .ref (b + x0)), (1, .long x1), (3, .int x3)] := hl
  have B_63 : ∀ (cs1 : CS) , c_X1_push_b63 F cs1 = some cs9 → ∀ (H : Heap) (locs : List Loc) (ls : Array Slot), va_P (dC, dI) vwCl (cW cB cI cJ cZ cS cO b cs1) H → va_D A (cW cB cI cJ cZ cS cO b cs1) → va_S A s.heap H locs → lv_has ls 4 [] → W p l e (headSpec (wsOf yX1_push cX1_push 4 none) ({ frames := 0, cells := 0, slots := 0, locals := 60 * (0) } : Room)).room s m ([.ref (b + x0), .long x1, .int x3] : List Value).toArray below meth c H locs 0 0 (MQ below (va_Qv (fun (_ : Unit) => True) (fun _ t_ => va_P (dC, dI) vwCl (cW cB cI cJ cZ cS cO b cs9) t_.heap ∧ va_D A (cW cB cI cJ cZ cS cO b cs9)) A) ([.ref (b + x0), .long x1, .int x3] : List Value).toArray s 0 0 A) (F0 m 63 ls []) := by
    intro cs1  h H locs ls hP hD hS hl
    unfold c_X1_push_b63 at h
    have e1 := Option.some.inj h
    rw [e1] at hP hD
    exact W.vret hx hb hr (fun t_ ht hW => ⟨⟨(), rfl, trivial, by rw [ht]; exact hP, hD⟩, hS.F ht⟩) hS.2.2 dX1_push_63
  have B_41 : ∀ (cs1 : CS) (u0 : Nat) (u3 : Int32) (y0 : Int64) (y1 : Int32) (y2 : Nat) (wy2 : Nat), c_X1_push_b41 F cs1 u0 u3 y0 y1 y2 wy2 = some cs9 → ∀ (H : Heap) (locs : List Loc) (ls : Array Slot), va_P (dC, dI) vwCl (cW cB cI cJ cZ cS cO b cs1) H → va_D A (cW cB cI cJ cZ cS cO b cs1) → va_S A s.heap H locs → lv_has ls 4 [(0, .ref (b + u0)), (3, .int u3)] → W p l e (headSpec (wsOf yX1_push cX1_push 4 none) ({ frames := 0, cells := 0, slots := 0, locals := 60 * (0) } : Room)).room s m ([.ref (b + x0), .long x1, .int x3] : List Value).toArray below meth c H locs 0 0 (MQ below (va_Qv (fun (_ : Unit) => True) (fun _ t_ => va_P (dC, dI) vwCl (cW cB cI cJ cZ cS cO b cs9) t_.heap ∧ va_D A (cW cB cI cJ cZ cS cO b cs9)) A) ([.ref (b + x0), .long x1, .int x3] : List Value).toArray s 0 0 A) (F0 m 41 ls [.long y0, .int y1, .ref (b + wy2)]) := by
    intro cs1 u0 u3 y0 y1 y2 wy2 h H locs ls hP hD hS hl
    unfold c_X1_push_b41 at h
    replace h := ob h; obtain ⟨cs_1, hv_1, h⟩ := h
    refine ast2 hx hb hK hP hD hS rfl hv_1 dX1_push_41 (fun H locs hP hD hS => ?_)
    refine lv_aload_n hx hb dX1_push_42 rfl (lv_at hl 0 rfl) ?_
    replace h := ob h; obtain ⟨v_2, hv_2, h⟩ := h
    refine fg_X1_49 hx hb hts hown hK hP hv_2 dX1_push_43 ?_
    refine lv_aload_n hx hb dX1_push_46 rfl (lv_at hl 0 rfl) ?_
    replace h := ob h; obtain ⟨v_3, hv_3, h⟩ := h
    refine fg_X1_59 hx hb hts hown hK hP hv_3 dX1_push_47 ?_
    refine lv_iload_n hx hb dX1_push_50 rfl (lv_at hl 1 rfl) ?_
    refine lv_i2b hx hb dX1_push_51 rfl ?_
    replace h := ob h; obtain ⟨cs_4, hv_4, h⟩ := h
    refine ast1 hx hb hK hP hD hS rfl hv_4 dX1_push_52 (fun H locs hP hD hS => ?_)
    refine lv_aload_n hx hb dX1_push_53 rfl (lv_at hl 0 rfl) ?_
    refine lv_dup hx hb dX1_push_54 rfl ?_
    replace h := ob h; obtain ⟨v_5, hv_5, h⟩ := h
    refine fg_X1_59 hx hb hts hown hK hP hv_5 dX1_push_55 ?_
    refine lv_iconst (v := 1) hx hb dX1_push_58 (by decide) ?_
    refine lv_iadd hx hb dX1_push_59 ?_
    replace h := ob h; obtain ⟨cs_6, hv_6, h⟩ := h
    refine fp_X1_59 hx hb hts hown hK hP hD hS hv_6 dX1_push_60 (fun H locs hP hD hS => ?_)
    exact B_63 cs_6 h _ _ _ hP hD hS (lv_sub hl [] rfl)
  have h := hf
  unfold c_X1_push at h
  refine lv_aload_n hx hb dX1_push_0 rfl (lv_at hl 0 rfl) ?_
  replace h := ob h; obtain ⟨v_7, hv_7, h⟩ := h
  refine fg_X1_59 hx hb hts hown hK hP hv_7 dX1_push_1 ?_
  refine lv_aload_n hx hb dX1_push_4 rfl (lv_at hl 0 rfl) ?_
  replace h := ob h; obtain ⟨v_8, hv_8, h⟩ := h
  refine fg_X1_46 hx hb hts hown hK hP hv_8 dX1_push_5 ?_
  replace h := ob h; obtain ⟨v_9, hv_9, h⟩ := h
  refine alen2 hx hb hK hP rfl hv_9 dX1_push_8 ?_
  refine lv_icmp_ge (tgt := 63) hx hb dX1_push_9 (by decide) (fun c_10 => ?_) (fun c_10 => ?_)
  · skip
    replace h := (if_pos c_10).symm.trans h
    exact B_63 cs h _ _ _ hP hD hS (lv_sub hl [] rfl)
  · skip
    replace h := (if_neg c_10).symm.trans h
    refine lv_aload_n hx hb dX1_push_12 rfl (lv_at hl 0 rfl) ?_
    replace h := ob h; obtain ⟨v_11, hv_11, h⟩ := h
    refine fg_X1_59 hx hb hts hown hK hP hv_11 dX1_push_13 ?_
    refine lv_aload_n hx hb dX1_push_16 rfl (lv_at hl 0 rfl) ?_
    replace h := ob h; obtain ⟨v_12, hv_12, h⟩ := h
    refine fg_X1_49 hx hb hts hown hK hP hv_12 dX1_push_17 ?_
    replace h := ob h; obtain ⟨v_13, hv_13, h⟩ := h
    refine alen1 hx hb hK hP rfl hv_13 dX1_push_20 ?_
    refine lv_icmp_ge (tgt := 63) hx hb dX1_push_21 (by decide) (fun c_14 => ?_) (fun c_14 => ?_)
    · skip
      replace h := (if_pos c_14).symm.trans h
      exact B_63 cs h _ _ _ hP hD hS (lv_sub hl [] rfl)
    · skip
      replace h := (if_neg c_14).symm.trans h
      refine lv_aload_n hx hb dX1_push_24 rfl (lv_at hl 0 rfl) ?_
      replace h := ob h; obtain ⟨v_15, hv_15, h⟩ := h
      refine fg_X1_46 hx hb hts hown hK hP hv_15 dX1_push_25 ?_
      refine lv_aload_n hx hb dX1_push_28 rfl (lv_at hl 0 rfl) ?_
      replace h := ob h; obtain ⟨v_16, hv_16, h⟩ := h
      refine fg_X1_59 hx hb hts hown hK hP hv_16 dX1_push_29 ?_
      refine lv_iload_n hx hb dX1_push_32 rfl (lv_at hl 2 rfl) ?_
      refine lv_if_eq (tgt := 40) hx hb dX1_push_33 (by decide) (fun c_17 => ?_) (fun c_17 => ?_)
      · skip
        replace h := (if_pos c_17).symm.trans h
        refine lv_lload_n hx hb dX1_push_40 rfl (lv_at hl 1 rfl) ?_
        exact B_41 cs x0 x3 x1 v_16 x0 v_15 h _ _ _ hP hD hS (lv_sub hl [0, 2] rfl)
      · skip
        replace h := (if_neg c_17).symm.trans h
        refine lv_lconst (v := 0) hx hb dX1_push_36 (by decide) ?_
        refine lv_goto (tgt := 41) hx hb dX1_push_37 (by decide) ?_
        exact B_41 cs x0 x3 0 v_16 x0 v_15 h _ _ _ hP hD hS (lv_sub hl [0, 2] rfl)
theorem dX1_one_0 : decode cX1_one 0 = .ok (.aload_n 0, 1) := by decide +kernel
theorem dX1_one_1 : decode cX1_one 1 = .ok (.getfield 59, 3) := by decide +kernel
theorem dX1_one_4 : decode cX1_one 4 = .ok (.iconst 1, 1) := by decide +kernel
theorem dX1_one_5 : decode cX1_one 5 = .ok (.if_icmp .ge 4, 3) := by decide +kernel
theorem dX1_one_8 : decode cX1_one 8 = .ok (.return_, 1) := by decide +kernel
theorem dX1_one_9 : decode cX1_one 9 = .ok (.aload_n 0, 1) := by decide +kernel
theorem dX1_one_10 : decode cX1_one 10 = .ok (.dup, 1) := by decide +kernel
theorem dX1_one_11 : decode cX1_one 11 = .ok (.getfield 59, 3) := by decide +kernel
theorem dX1_one_14 : decode cX1_one 14 = .ok (.iconst 1, 1) := by decide +kernel
theorem dX1_one_15 : decode cX1_one 15 = .ok (.isub, 1) := by decide +kernel
theorem dX1_one_16 : decode cX1_one 16 = .ok (.putfield 59, 3) := by decide +kernel
theorem dX1_one_19 : decode cX1_one 19 = .ok (.aload_n 0, 1) := by decide +kernel
theorem dX1_one_20 : decode cX1_one 20 = .ok (.getfield 46, 3) := by decide +kernel
theorem dX1_one_23 : decode cX1_one 23 = .ok (.aload_n 0, 1) := by decide +kernel
theorem dX1_one_24 : decode cX1_one 24 = .ok (.getfield 59, 3) := by decide +kernel
theorem dX1_one_27 : decode cX1_one 27 = .ok (.laload, 1) := by decide +kernel
theorem dX1_one_28 : decode cX1_one 28 = .ok (.lstore_n 2, 1) := by decide +kernel
theorem dX1_one_29 : decode cX1_one 29 = .ok (.aload_n 0, 1) := by decide +kernel
theorem dX1_one_30 : decode cX1_one 30 = .ok (.getfield 49, 3) := by decide +kernel
theorem dX1_one_33 : decode cX1_one 33 = .ok (.aload_n 0, 1) := by decide +kernel
theorem dX1_one_34 : decode cX1_one 34 = .ok (.getfield 59, 3) := by decide +kernel
theorem dX1_one_37 : decode cX1_one 37 = .ok (.baload, 1) := by decide +kernel
theorem dX1_one_38 : decode cX1_one 38 = .ok (.istore 4, 2) := by decide +kernel
theorem dX1_one_40 : decode cX1_one 40 = .ok (.iload_n 1, 1) := by decide +kernel
theorem dX1_one_41 : decode cX1_one 41 = .ok (.lookupswitch 69 #[(24, 58), (25, 35), (58, 47)], 35) := by decide +kernel
theorem dX1_one_76 : decode cX1_one 76 = .ok (.aload_n 0, 1) := by decide +kernel
theorem dX1_one_77 : decode cX1_one 77 = .ok (.lconst 1, 1) := by decide +kernel
theorem dX1_one_78 : decode cX1_one 78 = .ok (.lload_n 2, 1) := by decide +kernel
theorem dX1_one_79 : decode cX1_one 79 = .ok (.lsub, 1) := by decide +kernel
theorem dX1_one_80 : decode cX1_one 80 = .ok (.iload 4, 2) := by decide +kernel
theorem dX1_one_82 : decode cX1_one 82 = .ok (.invokevirtual 66, 3) := by decide +kernel
theorem dX1_one_85 : decode cX1_one 85 = .ok (.goto 35, 3) := by decide +kernel
theorem dX1_one_88 : decode cX1_one 88 = .ok (.aload_n 0, 1) := by decide +kernel
theorem dX1_one_89 : decode cX1_one 89 = .ok (.lload_n 2, 1) := by decide +kernel
theorem dX1_one_90 : decode cX1_one 90 = .ok (.lneg, 1) := by decide +kernel
theorem dX1_one_91 : decode cX1_one 91 = .ok (.iload 4, 2) := by decide +kernel
theorem dX1_one_93 : decode cX1_one 93 = .ok (.invokevirtual 66, 3) := by decide +kernel
theorem dX1_one_96 : decode cX1_one 96 = .ok (.goto 24, 3) := by decide +kernel
theorem dX1_one_99 : decode cX1_one 99 = .ok (.aload_n 0, 1) := by decide +kernel
theorem dX1_one_100 : decode cX1_one 100 = .ok (.iload 4, 2) := by decide +kernel
theorem dX1_one_102 : decode cX1_one 102 = .ok (.i2l, 1) := by decide +kernel
theorem dX1_one_103 : decode cX1_one 103 = .ok (.iconst 0, 1) := by decide +kernel
theorem dX1_one_104 : decode cX1_one 104 = .ok (.invokevirtual 66, 3) := by decide +kernel
theorem dX1_one_107 : decode cX1_one 107 = .ok (.goto 13, 3) := by decide +kernel
theorem dX1_one_110 : decode cX1_one 110 = .ok (.aload_n 0, 1) := by decide +kernel
theorem dX1_one_111 : decode cX1_one 111 = .ok (.iconst 1, 1) := by decide +kernel
theorem dX1_one_112 : decode cX1_one 112 = .ok (.iload 4, 2) := by decide +kernel
theorem dX1_one_114 : decode cX1_one 114 = .ok (.isub, 1) := by decide +kernel
theorem dX1_one_115 : decode cX1_one 115 = .ok (.i2l, 1) := by decide +kernel
theorem dX1_one_116 : decode cX1_one 116 = .ok (.iconst 0, 1) := by decide +kernel
theorem dX1_one_117 : decode cX1_one 117 = .ok (.invokevirtual 66, 3) := by decide +kernel
theorem dX1_one_120 : decode cX1_one 120 = .ok (.return_, 1) := by decide +kernel
def c_X1_one_b120 (F : Nat) (cs1 : CS) : Option CS := some cs1
def c_X1_one (F : Nat) (cs : CS) (x0 : Nat) (x1 : Int32) : Option CS := Option.bind (gI cs 2 76 x0) fun v_1 => if 1 ≤ v_1 then (Option.bind (gI cs 2 76 x0) fun v_3 => Option.bind (pI cs 2 76 x0 (v_3 - 1)) fun cs_4 => Option.bind (gA cs_4 2 74 x0) fun v_5 => Option.bind (gI cs_4 2 76 x0) fun v_6 => Option.bind (rB cs_4 74 x0 v_5 v_6) fun v_7 => Option.bind (gA cs_4 2 75 x0) fun v_8 => Option.bind (gI cs_4 2 76 x0) fun v_9 => Option.bind (rA cs_4 75 x0 v_8 v_9) fun v_10 => if x1 = 24 then (Option.bind (ckE cs_4 2 x0) fun _ => Option.bind (c_X1_push F cs_4 x0 ((v_10 : Int32).toInt64) 0) fun cs_12 => c_X1_one_b120 F cs_12) else (if x1 = 25 then (Option.bind (ckE cs_4 2 x0) fun _ => Option.bind (c_X1_push F cs_4 x0 (1 - v_7) v_10) fun cs_15 => c_X1_one_b120 F cs_15) else (if x1 = 58 then (Option.bind (ckE cs_4 2 x0) fun _ => Option.bind (c_X1_push F cs_4 x0 (-v_7) v_10) fun cs_18 => c_X1_one_b120 F cs_18) else (Option.bind (ckE cs_4 2 x0) fun _ => Option.bind (c_X1_push F cs_4 x0 ((1 - v_10 : Int32).toInt64) 0) fun cs_20 => c_X1_one_b120 F cs_20)))) else (some cs)
theorem cw_X1_X1_one {R : Room} {s : State} {args : Array Value} {y0 : MethodName} {c0 : ByteArray} {n0 : Nat} {r0 : Option FieldType} (hts : ∀ w ∈ wsOf y0 c0 n0 r0, w.before args s = true) {fr : Nat} (h1 : fr + 1 ≤ R.frames) (h2 : 8 + (5 + 11) + 60 * fr ≤ R.locals) : CallW R s args RX1 RX1 79 yX1_one cX1_one 5 none (wsOf yX1_one cX1_one 5 none) ({ frames := fr, cells := 0, slots := 0, locals := 60 * fr } : Room) 0 0 1 := cwV 1 hts (gd_all (in_V kw_1430 kw_1432 kw_74 kw_189 kc_X1_one)) rfl rfl rfl (by decide +kernel) ⟨h1, h2⟩
set_option maxHeartbeats 4000000 in
set_option maxRecDepth 100000 in
theorem sc_X1_one (l : Launch) (dC : Nat → ClassId) (dI : Nat → Nat → Nat) (cB cI cJ cZ cS cO : ClassId) (b : Nat) (K V : Nat → Nat) (fz : Value) (F : Nat) (cs : CS) (x0 : Nat) (x1 : Int32) (cs9 : CS) (hf : c_X1_one F cs x0 x1 = some cs9) : ocV l dC dI cB cI cJ cZ cS cO b K V fz yX1_one (wsOf yX1_one cX1_one 5 none) (1) [.ref (b + x0), .int x1] cs cs9 := by
  intro sz
  refine Met.ofW (cc := cX1_one) (maxL := 5) (ret := none) (by decide) rfl ?_
  intro p e s m args below meth c s₁ B hml hv
  obtain ⟨rfl, hsz, hP, hK, hD0, hZ⟩ := hv
  have hx := B.exec
  have hb := B.bytes
  have hr := B.returns
  have hts := atoms_spec (ws := (wsOf yX1_one cX1_one 5 none)) B.pre
  have hown : s.vm.findClass RX1 = some m.cls := findClass_of_methodNamed B.named
  have hlocks := B.notSynchronized
  subst hsz
  have hD := hD0.self (sz := s.heap.size)
  generalize hAe : va_A (cW cB cI cJ cZ cS cO b cs) s.heap.size = A at hD hZ ⊢
  have hA : ∀ q : Nat, s.heap.size ≤ q → A q := fun q h => by rw [← hAe]; exact Or.inr h
  have hS : va_S A s.heap s.heap [] := va_S.rf
  have hl := lv_entry ([.ref (b + x0), .int x1]) (n := 5) (Nat.le_of_ble_eq_true rfl)
  rw [lg_entry_eq]
  generalize (lg_sl ([.ref (b + x0), .int x1]) ++ List.replicate (5 - (lg_sl ([.ref (b + x0), .int x1])).length) Slot.unset).toArray = ls at hl ⊢
  have hl : lv_has ls 5 [(0, .ref (b + x0)), (1, .int x1)] := hl
  have B_120 : ∀ (cs1 : CS) , c_X1_one_b120 F cs1 = some cs9 → ∀ (H : Heap) (locs : List Loc) (ls : Array Slot), va_P (dC, dI) vwCl (cW cB cI cJ cZ cS cO b cs1) H → va_D A (cW cB cI cJ cZ cS cO b cs1) → va_S A s.heap H locs → lv_has ls 5 [] → W p l e (headSpec (wsOf yX1_one cX1_one 5 none) ({ frames := 1, cells := 0, slots := 0, locals := 60 * (1) } : Room)).room s m ([.ref (b + x0), .int x1] : List Value).toArray below meth c H locs 0 0 (MQ below (va_Qv (fun (_ : Unit) => True) (fun _ t_ => va_P (dC, dI) vwCl (cW cB cI cJ cZ cS cO b cs9) t_.heap ∧ va_D A (cW cB cI cJ cZ cS cO b cs9)) A) ([.ref (b + x0), .int x1] : List Value).toArray s 0 0 A) (F0 m 120 ls []) := by
    intro cs1  h H locs ls hP hD hS hl
    unfold c_X1_one_b120 at h
    have e1 := Option.some.inj h
    rw [e1] at hP hD
    exact W.vret hx hb hr (fun t_ ht hW => ⟨⟨(), rfl, trivial, by rw [ht]; exact hP, hD⟩, hS.F ht⟩) hS.2.2 dX1_one_120
  have h := hf
  unfold c_X1_one at h
  refine lv_aload_n hx hb dX1_one_0 rfl (lv_at hl 0 rfl) ?_
  replace h := ob h; obtain ⟨v_1, hv_1, h⟩ := h
  refine fg_X1_59 hx hb hts hown hK hP hv_1 dX1_one_1 ?_
  refine lv_iconst (v := 1) hx hb dX1_one_4 (by decide) ?_
  refine lv_icmp_ge (tgt := 9) hx hb dX1_one_5 (by decide) (fun c_2 => ?_) (fun c_2 => ?_)
  · skip
    replace h := (if_pos c_2).symm.trans h
    refine lv_aload_n hx hb dX1_one_9 rfl (lv_at hl 0 rfl) ?_
    refine lv_dup hx hb dX1_one_10 rfl ?_
    replace h := ob h; obtain ⟨v_3, hv_3, h⟩ := h
    refine fg_X1_59 hx hb hts hown hK hP hv_3 dX1_one_11 ?_
    refine lv_iconst (v := 1) hx hb dX1_one_14 (by decide) ?_
    refine lv_isub hx hb dX1_one_15 ?_
    replace h := ob h; obtain ⟨cs_4, hv_4, h⟩ := h
    refine fp_X1_59 hx hb hts hown hK hP hD hS hv_4 dX1_one_16 (fun H locs hP hD hS => ?_)
    refine lv_aload_n hx hb dX1_one_19 rfl (lv_at hl 0 rfl) ?_
    replace h := ob h; obtain ⟨v_5, hv_5, h⟩ := h
    refine fg_X1_46 hx hb hts hown hK hP hv_5 dX1_one_20 ?_
    refine lv_aload_n hx hb dX1_one_23 rfl (lv_at hl 0 rfl) ?_
    replace h := ob h; obtain ⟨v_6, hv_6, h⟩ := h
    refine fg_X1_59 hx hb hts hown hK hP hv_6 dX1_one_24 ?_
    replace h := ob h; obtain ⟨v_7, hv_7, h⟩ := h
    refine ald2 hx hb hK hP rfl hv_7 dX1_one_27 ?_
    refine lv_lstore_n (lv' := [(2, .long v_7), (0, .ref (b + x0)), (1, .int x1)]) hx hb dX1_one_28 rfl hl (by decide) rfl (fun ls hl => ?_)
    refine lv_aload_n hx hb dX1_one_29 rfl (lv_at hl 1 rfl) ?_
    replace h := ob h; obtain ⟨v_8, hv_8, h⟩ := h
    refine fg_X1_49 hx hb hts hown hK hP hv_8 dX1_one_30 ?_
    refine lv_aload_n hx hb dX1_one_33 rfl (lv_at hl 1 rfl) ?_
    replace h := ob h; obtain ⟨v_9, hv_9, h⟩ := h
    refine fg_X1_59 hx hb hts hown hK hP hv_9 dX1_one_34 ?_
    replace h := ob h; obtain ⟨v_10, hv_10, h⟩ := h
    refine ald1 hx hb hK hP rfl hv_10 dX1_one_37 ?_
    refine lv_istore (lv' := [(4, .int v_10), (2, .long v_7), (0, .ref (b + x0)), (1, .int x1)]) hx hb dX1_one_38 hl (by decide) rfl (fun ls hl => ?_)
    refine lv_iload_n hx hb dX1_one_40 rfl (lv_at hl 3 rfl) ?_
    by_cases c_11 : x1 = 24
    · skip
      replace h := (if_pos c_11).symm.trans h
      refine lv_lookup (tgt := 99) (off := 58) hx hb dX1_one_41 (by decide) (by rw [c_11]; decide) (by decide) ?_
      refine lv_aload_n hx hb dX1_one_99 rfl (lv_at hl 2 rfl) ?_
      refine lv_iload hx hb dX1_one_100 (lv_at hl 0 rfl) ?_
      refine lv_i2l hx hb dX1_one_102 rfl ?_
      refine lv_iconst (v := 0) hx hb dX1_one_103 (by decide) ?_
      replace h := ob h; obtain ⟨w_13, hw_13, h⟩ := h
      replace h := ob h; obtain ⟨cs_12, hv_12, h⟩ := h
      refine ccV (As := [.long ((v_10 : Int32).toInt64), .int 0]) hx hb hml hts hown hK hP hD hS hA hZ (X := 2) (by decide) rfl (ckE_some hw_13) (sc_X1_push l dC dI cB cI cJ cZ cS cO b K V fz F cs_4 x0 ((v_10 : Int32).toInt64) 0 cs_12 hv_12) (cw_X1_X1_push hts (fr := 0) (Nat.le_of_ble_eq_true rfl) (Nat.le_of_ble_eq_true rfl)) rfl hl.1 (Nat.le_of_ble_eq_true rfl) ⟨Nat.zero_le _, Nat.zero_le _⟩ dX1_one_104 (fun H locs hP hD hS => ?_)
      refine lv_goto (tgt := 120) hx hb dX1_one_107 (by decide) ?_
      exact B_120 cs_12 h _ _ _ hP hD hS (lv_sub hl [] rfl)
    replace h := (if_neg c_11).symm.trans h
    by_cases c_14 : x1 = 25
    · skip
      replace h := (if_pos c_14).symm.trans h
      refine lv_lookup (tgt := 76) (off := 35) hx hb dX1_one_41 (by decide) (by rw [c_14]; decide) (by decide) ?_
      refine lv_aload_n hx hb dX1_one_76 rfl (lv_at hl 2 rfl) ?_
      refine lv_lconst (v := 1) hx hb dX1_one_77 (by decide) ?_
      refine lv_lload_n hx hb dX1_one_78 rfl (lv_at hl 1 rfl) ?_
      refine lv_lsub hx hb dX1_one_79 ?_
      refine lv_iload hx hb dX1_one_80 (lv_at hl 0 rfl) ?_
      replace h := ob h; obtain ⟨w_16, hw_16, h⟩ := h
      replace h := ob h; obtain ⟨cs_15, hv_15, h⟩ := h
      refine ccV (As := [.long (1 - v_7), .int v_10]) hx hb hml hts hown hK hP hD hS hA hZ (X := 2) (by decide) rfl (ckE_some hw_16) (sc_X1_push l dC dI cB cI cJ cZ cS cO b K V fz F cs_4 x0 (1 - v_7) v_10 cs_15 hv_15) (cw_X1_X1_push hts (fr := 0) (Nat.le_of_ble_eq_true rfl) (Nat.le_of_ble_eq_true rfl)) rfl hl.1 (Nat.le_of_ble_eq_true rfl) ⟨Nat.zero_le _, Nat.zero_le _⟩ dX1_one_82 (fun H locs hP hD hS => ?_)
      refine lv_goto (tgt := 120) hx hb dX1_one_85 (by decide) ?_
      exact B_120 cs_15 h _ _ _ hP hD hS (lv_sub hl [] rfl)
    replace h := (if_neg c_14).symm.trans h
    by_cases c_17 : x1 = 58
    · skip
      replace h := (if_pos c_17).symm.trans h
      refine lv_lookup (tgt := 88) (off := 47) hx hb dX1_one_41 (by decide) (by rw [c_17]; decide) (by decide) ?_
      refine lv_aload_n hx hb dX1_one_88 rfl (lv_at hl 2 rfl) ?_
      refine lv_lload_n hx hb dX1_one_89 rfl (lv_at hl 1 rfl) ?_
      refine lv_lneg hx hb dX1_one_90 ?_
      refine lv_iload hx hb dX1_one_91 (lv_at hl 0 rfl) ?_
      replace h := ob h; obtain ⟨w_19, hw_19, h⟩ := h
      replace h := ob h; obtain ⟨cs_18, hv_18, h⟩ := h
      refine ccV (As := [.long (-v_7), .int v_10]) hx hb hml hts hown hK hP hD hS hA hZ (X := 2) (by decide) rfl (ckE_some hw_19) (sc_X1_push l dC dI cB cI cJ cZ cS cO b K V fz F cs_4 x0 (-v_7) v_10 cs_18 hv_18) (cw_X1_X1_push hts (fr := 0) (Nat.le_of_ble_eq_true rfl) (Nat.le_of_ble_eq_true rfl)) rfl hl.1 (Nat.le_of_ble_eq_true rfl) ⟨Nat.zero_le _, Nat.zero_le _⟩ dX1_one_93 (fun H locs hP hD hS => ?_)
      refine lv_goto (tgt := 120) hx hb dX1_one_96 (by decide) ?_
      exact B_120 cs_18 h _ _ _ hP hD hS (lv_sub hl [] rfl)
    replace h := (if_neg c_17).symm.trans h
    refine lv_lookup (tgt := 110) (off := 69) hx hb dX1_one_41 (by decide) ((lv_osw c_11 (by decide)).trans ((lv_osw c_14 (by decide)).trans ((lv_osw c_17 (by decide)).trans rfl))) (by decide) ?_
    refine lv_aload_n hx hb dX1_one_110 rfl (lv_at hl 2 rfl) ?_
    refine lv_iconst (v := 1) hx hb dX1_one_111 (by decide) ?_
    refine lv_iload hx hb dX1_one_112 (lv_at hl 0 rfl) ?_
    refine lv_isub hx hb dX1_one_114 ?_
    refine lv_i2l hx hb dX1_one_115 rfl ?_
    refine lv_iconst (v := 0) hx hb dX1_one_116 (by decide) ?_
    replace h := ob h; obtain ⟨w_21, hw_21, h⟩ := h
    replace h := ob h; obtain ⟨cs_20, hv_20, h⟩ := h
    refine ccV (As := [.long ((1 - v_10 : Int32).toInt64), .int 0]) hx hb hml hts hown hK hP hD hS hA hZ (X := 2) (by decide) rfl (ckE_some hw_21) (sc_X1_push l dC dI cB cI cJ cZ cS cO b K V fz F cs_4 x0 ((1 - v_10 : Int32).toInt64) 0 cs_20 hv_20) (cw_X1_X1_push hts (fr := 0) (Nat.le_of_ble_eq_true rfl) (Nat.le_of_ble_eq_true rfl)) rfl hl.1 (Nat.le_of_ble_eq_true rfl) ⟨Nat.zero_le _, Nat.zero_le _⟩ dX1_one_117 (fun H locs hP hD hS => ?_)
    exact B_120 cs_20 h _ _ _ hP hD hS (lv_sub hl [] rfl)
  · skip
    replace h := (if_neg c_2).symm.trans h
    have e1 := Option.some.inj h
    rw [e1] at hP hD
    exact W.vret hx hb hr (fun t_ ht hW => ⟨⟨(), rfl, trivial, by rw [ht]; exact hP, hD⟩, hS.F ht⟩) hS.2.2 dX1_one_8
theorem dX1_choose_0 : decode cX1_choose 0 = .ok (.aload_n 0, 1) := by decide +kernel
theorem dX1_choose_1 : decode cX1_choose 1 = .ok (.getfield 59, 3) := by decide +kernel
theorem dX1_choose_4 : decode cX1_choose 4 = .ok (.iconst 3, 1) := by decide +kernel
theorem dX1_choose_5 : decode cX1_choose 5 = .ok (.if_icmp .ge 4, 3) := by decide +kernel
theorem dX1_choose_8 : decode cX1_choose 8 = .ok (.return_, 1) := by decide +kernel
theorem dX1_choose_9 : decode cX1_choose 9 = .ok (.aload_n 0, 1) := by decide +kernel
theorem dX1_choose_10 : decode cX1_choose 10 = .ok (.dup, 1) := by decide +kernel
theorem dX1_choose_11 : decode cX1_choose 11 = .ok (.getfield 59, 3) := by decide +kernel
theorem dX1_choose_14 : decode cX1_choose 14 = .ok (.iconst 3, 1) := by decide +kernel
theorem dX1_choose_15 : decode cX1_choose 15 = .ok (.isub, 1) := by decide +kernel
theorem dX1_choose_16 : decode cX1_choose 16 = .ok (.putfield 59, 3) := by decide +kernel
theorem dX1_choose_19 : decode cX1_choose 19 = .ok (.aload_n 0, 1) := by decide +kernel
theorem dX1_choose_20 : decode cX1_choose 20 = .ok (.getfield 49, 3) := by decide +kernel
theorem dX1_choose_23 : decode cX1_choose 23 = .ok (.aload_n 0, 1) := by decide +kernel
theorem dX1_choose_24 : decode cX1_choose 24 = .ok (.getfield 59, 3) := by decide +kernel
theorem dX1_choose_27 : decode cX1_choose 27 = .ok (.baload, 1) := by decide +kernel
theorem dX1_choose_28 : decode cX1_choose 28 = .ok (.ifCond .ne 26, 3) := by decide +kernel
theorem dX1_choose_31 : decode cX1_choose 31 = .ok (.aload_n 0, 1) := by decide +kernel
theorem dX1_choose_32 : decode cX1_choose 32 = .ok (.getfield 46, 3) := by decide +kernel
theorem dX1_choose_35 : decode cX1_choose 35 = .ok (.aload_n 0, 1) := by decide +kernel
theorem dX1_choose_36 : decode cX1_choose 36 = .ok (.getfield 59, 3) := by decide +kernel
theorem dX1_choose_39 : decode cX1_choose 39 = .ok (.laload, 1) := by decide +kernel
theorem dX1_choose_40 : decode cX1_choose 40 = .ok (.lconst 0, 1) := by decide +kernel
theorem dX1_choose_41 : decode cX1_choose 41 = .ok (.lcmp, 1) := by decide +kernel
theorem dX1_choose_42 : decode cX1_choose 42 = .ok (.ifCond .eq 12, 3) := by decide +kernel
theorem dX1_choose_45 : decode cX1_choose 45 = .ok (.aload_n 0, 1) := by decide +kernel
theorem dX1_choose_46 : decode cX1_choose 46 = .ok (.getfield 59, 3) := by decide +kernel
theorem dX1_choose_49 : decode cX1_choose 49 = .ok (.iconst 1, 1) := by decide +kernel
theorem dX1_choose_50 : decode cX1_choose 50 = .ok (.iadd, 1) := by decide +kernel
theorem dX1_choose_51 : decode cX1_choose 51 = .ok (.goto 9, 3) := by decide +kernel
theorem dX1_choose_54 : decode cX1_choose 54 = .ok (.aload_n 0, 1) := by decide +kernel
theorem dX1_choose_55 : decode cX1_choose 55 = .ok (.getfield 59, 3) := by decide +kernel
theorem dX1_choose_58 : decode cX1_choose 58 = .ok (.iconst 2, 1) := by decide +kernel
theorem dX1_choose_59 : decode cX1_choose 59 = .ok (.iadd, 1) := by decide +kernel
theorem dX1_choose_60 : decode cX1_choose 60 = .ok (.istore_n 1, 1) := by decide +kernel
theorem dX1_choose_61 : decode cX1_choose 61 = .ok (.aload_n 0, 1) := by decide +kernel
theorem dX1_choose_62 : decode cX1_choose 62 = .ok (.aload_n 0, 1) := by decide +kernel
theorem dX1_choose_63 : decode cX1_choose 63 = .ok (.getfield 46, 3) := by decide +kernel
theorem dX1_choose_66 : decode cX1_choose 66 = .ok (.iload_n 1, 1) := by decide +kernel
theorem dX1_choose_67 : decode cX1_choose 67 = .ok (.laload, 1) := by decide +kernel
theorem dX1_choose_68 : decode cX1_choose 68 = .ok (.aload_n 0, 1) := by decide +kernel
theorem dX1_choose_69 : decode cX1_choose 69 = .ok (.getfield 49, 3) := by decide +kernel
theorem dX1_choose_72 : decode cX1_choose 72 = .ok (.iload_n 1, 1) := by decide +kernel
theorem dX1_choose_73 : decode cX1_choose 73 = .ok (.baload, 1) := by decide +kernel
theorem dX1_choose_74 : decode cX1_choose 74 = .ok (.invokevirtual 66, 3) := by decide +kernel
theorem dX1_choose_77 : decode cX1_choose 77 = .ok (.return_, 1) := by decide +kernel
def c_X1_choose_b60 (F : Nat) (cs1 : CS) (u0 : Nat) (y0 : Int32) : Option CS := Option.bind (gA cs1 2 74 u0) fun v_1 => Option.bind (rB cs1 74 u0 v_1 y0) fun v_2 => Option.bind (gA cs1 2 75 u0) fun v_3 => Option.bind (rA cs1 75 u0 v_3 y0) fun v_4 => Option.bind (ckE cs1 2 u0) fun _ => Option.bind (c_X1_push F cs1 u0 v_2 v_4) fun cs_5 => some cs_5
def c_X1_choose_b54 (F : Nat) (cs1 : CS) (u0 : Nat) : Option CS := Option.bind (gI cs1 2 76 u0) fun v_7 => c_X1_choose_b60 F cs1 u0 (v_7 + 2)
def c_X1_choose (F : Nat) (cs : CS) (x0 : Nat) : Option CS := Option.bind (gI cs 2 76 x0) fun v_8 => if 3 ≤ v_8 then (Option.bind (gI cs 2 76 x0) fun v_10 => Option.bind (pI cs 2 76 x0 (v_10 - 3)) fun cs_11 => Option.bind (gA cs_11 2 75 x0) fun v_12 => Option.bind (gI cs_11 2 76 x0) fun v_13 => Option.bind (rA cs_11 75 x0 v_12 v_13) fun v_14 => if v_14 = 0 then (Option.bind (gA cs_11 2 74 x0) fun v_16 => Option.bind (gI cs_11 2 76 x0) fun v_17 => Option.bind (rB cs_11 74 x0 v_16 v_17) fun v_18 => if v_18 = 0 then (c_X1_choose_b54 F cs_11 x0) else (Option.bind (gI cs_11 2 76 x0) fun v_20 => c_X1_choose_b60 F cs_11 x0 (v_20 + 1))) else (c_X1_choose_b54 F cs_11 x0)) else (some cs)
theorem cw_X1_X1_choose {R : Room} {s : State} {args : Array Value} {y0 : MethodName} {c0 : ByteArray} {n0 : Nat} {r0 : Option FieldType} (hts : ∀ w ∈ wsOf y0 c0 n0 r0, w.before args s = true) {fr : Nat} (h1 : fr + 1 ≤ R.frames) (h2 : 8 + (2 + 11) + 60 * fr ≤ R.locals) : CallW R s args RX1 RX1 83 yX1_choose cX1_choose 2 none (wsOf yX1_choose cX1_choose 2 none) ({ frames := fr, cells := 0, slots := 0, locals := 60 * fr } : Room) 0 0 0 := cwV 0 hts (gd_all (in_V kw_1434 kw_1436 kw_75 kw_189 kc_X1_choose)) rfl rfl rfl (by decide +kernel) ⟨h1, h2⟩
set_option maxHeartbeats 4000000 in
set_option maxRecDepth 100000 in
theorem sc_X1_choose (l : Launch) (dC : Nat → ClassId) (dI : Nat → Nat → Nat) (cB cI cJ cZ cS cO : ClassId) (b : Nat) (K V : Nat → Nat) (fz : Value) (F : Nat) (cs : CS) (x0 : Nat) (cs9 : CS) (hf : c_X1_choose F cs x0 = some cs9) : ocV l dC dI cB cI cJ cZ cS cO b K V fz yX1_choose (wsOf yX1_choose cX1_choose 2 none) (1) [.ref (b + x0)] cs cs9 := by
  intro sz
  refine Met.ofW (cc := cX1_choose) (maxL := 2) (ret := none) (by decide) rfl ?_
  intro p e s m args below meth c s₁ B hml hv
  obtain ⟨rfl, hsz, hP, hK, hD0, hZ⟩ := hv
  have hx := B.exec
  have hb := B.bytes
  have hr := B.returns
  have hts := atoms_spec (ws := (wsOf yX1_choose cX1_choose 2 none)) B.pre
  have hown : s.vm.findClass RX1 = some m.cls := findClass_of_methodNamed B.named
  have hlocks := B.notSynchronized
  subst hsz
  have hD := hD0.self (sz := s.heap.size)
  generalize hAe : va_A (cW cB cI cJ cZ cS cO b cs) s.heap.size = A at hD hZ ⊢
  have hA : ∀ q : Nat, s.heap.size ≤ q → A q := fun q h => by rw [← hAe]; exact Or.inr h
  have hS : va_S A s.heap s.heap [] := va_S.rf
  have hl := lv_entry ([.ref (b + x0)]) (n := 2) (Nat.le_of_ble_eq_true rfl)
  rw [lg_entry_eq]
  generalize (lg_sl ([.ref (b + x0)]) ++ List.replicate (2 - (lg_sl ([.ref (b + x0)])).length) Slot.unset).toArray = ls at hl ⊢
  have hl : lv_has ls 2 [(0, .ref (b + x0))] := hl
  have B_60 : ∀ (cs1 : CS) (u0 : Nat) (y0 : Int32), c_X1_choose_b60 F cs1 u0 y0 = some cs9 → ∀ (H : Heap) (locs : List Loc) (ls : Array Slot), va_P (dC, dI) vwCl (cW cB cI cJ cZ cS cO b cs1) H → va_D A (cW cB cI cJ cZ cS cO b cs1) → va_S A s.heap H locs → lv_has ls 2 [(0, .ref (b + u0))] → W p l e (headSpec (wsOf yX1_choose cX1_choose 2 none) ({ frames := 1, cells := 0, slots := 0, locals := 60 * (1) } : Room)).room s m ([.ref (b + x0)] : List Value).toArray below meth c H locs 0 0 (MQ below (va_Qv (fun (_ : Unit) => True) (fun _ t_ => va_P (dC, dI) vwCl (cW cB cI cJ cZ cS cO b cs9) t_.heap ∧ va_D A (cW cB cI cJ cZ cS cO b cs9)) A) ([.ref (b + x0)] : List Value).toArray s 0 0 A) (F0 m 60 ls [.int y0]) := by
    intro cs1 u0 y0 h H locs ls hP hD hS hl
    unfold c_X1_choose_b60 at h
    refine lv_istore_n (lv' := [(1, .int y0), (0, .ref (b + u0))]) hx hb dX1_choose_60 rfl hl (by decide) rfl (fun ls hl => ?_)
    refine lv_aload_n hx hb dX1_choose_61 rfl (lv_at hl 1 rfl) ?_
    refine lv_aload_n hx hb dX1_choose_62 rfl (lv_at hl 1 rfl) ?_
    replace h := ob h; obtain ⟨v_1, hv_1, h⟩ := h
    refine fg_X1_46 hx hb hts hown hK hP hv_1 dX1_choose_63 ?_
    refine lv_iload_n hx hb dX1_choose_66 rfl (lv_at hl 0 rfl) ?_
    replace h := ob h; obtain ⟨v_2, hv_2, h⟩ := h
    refine ald2 hx hb hK hP rfl hv_2 dX1_choose_67 ?_
    refine lv_aload_n hx hb dX1_choose_68 rfl (lv_at hl 1 rfl) ?_
    replace h := ob h; obtain ⟨v_3, hv_3, h⟩ := h
    refine fg_X1_49 hx hb hts hown hK hP hv_3 dX1_choose_69 ?_
    refine lv_iload_n hx hb dX1_choose_72 rfl (lv_at hl 0 rfl) ?_
    replace h := ob h; obtain ⟨v_4, hv_4, h⟩ := h
    refine ald1 hx hb hK hP rfl hv_4 dX1_choose_73 ?_
    replace h := ob h; obtain ⟨w_6, hw_6, h⟩ := h
    replace h := ob h; obtain ⟨cs_5, hv_5, h⟩ := h
    refine ccV (As := [.long v_2, .int v_4]) hx hb hml hts hown hK hP hD hS hA hZ (X := 2) (by decide) rfl (ckE_some hw_6) (sc_X1_push l dC dI cB cI cJ cZ cS cO b K V fz F cs1 u0 v_2 v_4 cs_5 hv_5) (cw_X1_X1_push hts (fr := 0) (Nat.le_of_ble_eq_true rfl) (Nat.le_of_ble_eq_true rfl)) rfl hl.1 (Nat.le_of_ble_eq_true rfl) ⟨Nat.zero_le _, Nat.zero_le _⟩ dX1_choose_74 (fun H locs hP hD hS => ?_)
    have e1 := Option.some.inj h
    rw [e1] at hP hD
    exact W.vret hx hb hr (fun t_ ht hW => ⟨⟨(), rfl, trivial, by rw [ht]; exact hP, hD⟩, hS.F ht⟩) hS.2.2 dX1_choose_77
  have B_54 : ∀ (cs1 : CS) (u0 : Nat), c_X1_choose_b54 F cs1 u0 = some cs9 → ∀ (H : Heap) (locs : List Loc) (ls : Array Slot), va_P (dC, dI) vwCl (cW cB cI cJ cZ cS cO b cs1) H → va_D A (cW cB cI cJ cZ cS cO b cs1) → va_S A s.heap H locs → lv_has ls 2 [(0, .ref (b + u0))] → W p l e (headSpec (wsOf yX1_choose cX1_choose 2 none) ({ frames := 1, cells := 0, slots := 0, locals := 60 * (1) } : Room)).room s m ([.ref (b + x0)] : List Value).toArray below meth c H locs 0 0 (MQ below (va_Qv (fun (_ : Unit) => True) (fun _ t_ => va_P (dC, dI) vwCl (cW cB cI cJ cZ cS cO b cs9) t_.heap ∧ va_D A (cW cB cI cJ cZ cS cO b cs9)) A) ([.ref (b + x0)] : List Value).toArray s 0 0 A) (F0 m 54 ls []) := by
    intro cs1 u0 h H locs ls hP hD hS hl
    unfold c_X1_choose_b54 at h
    refine lv_aload_n hx hb dX1_choose_54 rfl (lv_at hl 0 rfl) ?_
    replace h := ob h; obtain ⟨v_7, hv_7, h⟩ := h
    refine fg_X1_59 hx hb hts hown hK hP hv_7 dX1_choose_55 ?_
    refine lv_iconst (v := 2) hx hb dX1_choose_58 (by decide) ?_
    refine lv_iadd hx hb dX1_choose_59 ?_
    exact B_60 cs1 u0 (v_7 + 2) h _ _ _ hP hD hS (lv_sub hl [0] rfl)
  have h := hf
  unfold c_X1_choose at h
  refine lv_aload_n hx hb dX1_choose_0 rfl (lv_at hl 0 rfl) ?_
  replace h := ob h; obtain ⟨v_8, hv_8, h⟩ := h
  refine fg_X1_59 hx hb hts hown hK hP hv_8 dX1_choose_1 ?_
  refine lv_iconst (v := 3) hx hb dX1_choose_4 (by decide) ?_
  refine lv_icmp_ge (tgt := 9) hx hb dX1_choose_5 (by decide) (fun c_9 => ?_) (fun c_9 => ?_)
  · skip
    replace h := (if_pos c_9).symm.trans h
    refine lv_aload_n hx hb dX1_choose_9 rfl (lv_at hl 0 rfl) ?_
    refine lv_dup hx hb dX1_choose_10 rfl ?_
    replace h := ob h; obtain ⟨v_10, hv_10, h⟩ := h
    refine fg_X1_59 hx hb hts hown hK hP hv_10 dX1_choose_11 ?_
    refine lv_iconst (v := 3) hx hb dX1_choose_14 (by decide) ?_
    refine lv_isub hx hb dX1_choose_15 ?_
    replace h := ob h; obtain ⟨cs_11, hv_11, h⟩ := h
    refine fp_X1_59 hx hb hts hown hK hP hD hS hv_11 dX1_choose_16 (fun H locs hP hD hS => ?_)
    refine lv_aload_n hx hb dX1_choose_19 rfl (lv_at hl 0 rfl) ?_
    replace h := ob h; obtain ⟨v_12, hv_12, h⟩ := h
    refine fg_X1_49 hx hb hts hown hK hP hv_12 dX1_choose_20 ?_
    refine lv_aload_n hx hb dX1_choose_23 rfl (lv_at hl 0 rfl) ?_
    replace h := ob h; obtain ⟨v_13, hv_13, h⟩ := h
    refine fg_X1_59 hx hb hts hown hK hP hv_13 dX1_choose_24 ?_
    replace h := ob h; obtain ⟨v_14, hv_14, h⟩ := h
    refine ald1 hx hb hK hP rfl hv_14 dX1_choose_27 ?_
    refine lv_if_ne (tgt := 54) hx hb dX1_choose_28 (by decide) (fun c_15 => ?_) (fun c_15 => ?_)
    · skip
      replace h := (if_neg c_15).symm.trans h
      exact B_54 cs_11 x0 h _ _ _ hP hD hS (lv_sub hl [0] rfl)
    · skip
      replace h := (if_pos c_15).symm.trans h
      refine lv_aload_n hx hb dX1_choose_31 rfl (lv_at hl 0 rfl) ?_
      replace h := ob h; obtain ⟨v_16, hv_16, h⟩ := h
      refine fg_X1_46 hx hb hts hown hK hP hv_16 dX1_choose_32 ?_
      refine lv_aload_n hx hb dX1_choose_35 rfl (lv_at hl 0 rfl) ?_
      replace h := ob h; obtain ⟨v_17, hv_17, h⟩ := h
      refine fg_X1_59 hx hb hts hown hK hP hv_17 dX1_choose_36 ?_
      replace h := ob h; obtain ⟨v_18, hv_18, h⟩ := h
      refine ald2 hx hb hK hP rfl hv_18 dX1_choose_39 ?_
      refine lv_lconst (v := 0) hx hb dX1_choose_40 (by decide) ?_
      refine W.lcmp hx hb dX1_choose_41 ?_
      refine lv_if_eq (tgt := 54) hx hb dX1_choose_42 (by decide) (fun c_19 => ?_) (fun c_19 => ?_)
      · skip
        have c_19 : v_18 = 0 := (lg_cmp_eq _ _).mp c_19
        replace h := (if_pos c_19).symm.trans h
        exact B_54 cs_11 x0 h _ _ _ hP hD hS (lv_sub hl [0] rfl)
      · skip
        have c_19 : ¬ (v_18 = 0) := fun h9 => c_19 ((lg_cmp_eq _ _).mpr h9)
        replace h := (if_neg c_19).symm.trans h
        refine lv_aload_n hx hb dX1_choose_45 rfl (lv_at hl 0 rfl) ?_
        replace h := ob h; obtain ⟨v_20, hv_20, h⟩ := h
        refine fg_X1_59 hx hb hts hown hK hP hv_20 dX1_choose_46 ?_
        refine lv_iconst (v := 1) hx hb dX1_choose_49 (by decide) ?_
        refine lv_iadd hx hb dX1_choose_50 ?_
        refine lv_goto (tgt := 60) hx hb dX1_choose_51 (by decide) ?_
        exact B_60 cs_11 x0 (v_20 + 1) h _ _ _ hP hD hS (lv_sub hl [0] rfl)
  · skip
    replace h := (if_neg c_9).symm.trans h
    have e1 := Option.some.inj h
    rw [e1] at hP hD
    exact W.vret hx hb hr (fun t_ ht hW => ⟨⟨(), rfl, trivial, by rw [ht]; exact hP, hD⟩, hS.F ht⟩) hS.2.2 dX1_choose_8
theorem dX1_search_0 : decode cX1_search 0 = .ok (.iload_n 1, 1) := by decide +kernel
theorem dX1_search_1 : decode cX1_search 1 = .ok (.ifCond .lt 13, 3) := by decide +kernel
theorem dX1_search_4 : decode cX1_search 4 = .ok (.aload_n 0, 1) := by decide +kernel
theorem dX1_search_5 : decode cX1_search 5 = .ok (.getfield 59, 3) := by decide +kernel
theorem dX1_search_8 : decode cX1_search 8 = .ok (.iload_n 1, 1) := by decide +kernel
theorem dX1_search_9 : decode cX1_search 9 = .ok (.iconst 1, 1) := by decide +kernel
theorem dX1_search_10 : decode cX1_search 10 = .ok (.iadd, 1) := by decide +kernel
theorem dX1_search_11 : decode cX1_search 11 = .ok (.if_icmp .ge 4, 3) := by decide +kernel
theorem dX1_search_14 : decode cX1_search 14 = .ok (.return_, 1) := by decide +kernel
theorem dX1_search_15 : decode cX1_search 15 = .ok (.aload_n 0, 1) := by decide +kernel
theorem dX1_search_16 : decode cX1_search 16 = .ok (.dup, 1) := by decide +kernel
theorem dX1_search_17 : decode cX1_search 17 = .ok (.getfield 59, 3) := by decide +kernel
theorem dX1_search_20 : decode cX1_search 20 = .ok (.iload_n 1, 1) := by decide +kernel
theorem dX1_search_21 : decode cX1_search 21 = .ok (.iconst 1, 1) := by decide +kernel
theorem dX1_search_22 : decode cX1_search 22 = .ok (.iadd, 1) := by decide +kernel
theorem dX1_search_23 : decode cX1_search 23 = .ok (.isub, 1) := by decide +kernel
theorem dX1_search_24 : decode cX1_search 24 = .ok (.putfield 59, 3) := by decide +kernel
theorem dX1_search_27 : decode cX1_search 27 = .ok (.aload_n 0, 1) := by decide +kernel
theorem dX1_search_28 : decode cX1_search 28 = .ok (.getfield 49, 3) := by decide +kernel
theorem dX1_search_31 : decode cX1_search 31 = .ok (.aload_n 0, 1) := by decide +kernel
theorem dX1_search_32 : decode cX1_search 32 = .ok (.getfield 59, 3) := by decide +kernel
theorem dX1_search_35 : decode cX1_search 35 = .ok (.baload, 1) := by decide +kernel
theorem dX1_search_36 : decode cX1_search 36 = .ok (.ifCond .eq 7, 3) := by decide +kernel
theorem dX1_search_39 : decode cX1_search 39 = .ok (.iconst 1, 1) := by decide +kernel
theorem dX1_search_40 : decode cX1_search 40 = .ok (.goto 4, 3) := by decide +kernel
theorem dX1_search_43 : decode cX1_search 43 = .ok (.iconst 0, 1) := by decide +kernel
theorem dX1_search_44 : decode cX1_search 44 = .ok (.istore_n 3, 1) := by decide +kernel
theorem dX1_search_45 : decode cX1_search 45 = .ok (.iconst 0, 1) := by decide +kernel
theorem dX1_search_46 : decode cX1_search 46 = .ok (.istore 4, 2) := by decide +kernel
theorem dX1_search_48 : decode cX1_search 48 = .ok (.aload_n 0, 1) := by decide +kernel
theorem dX1_search_49 : decode cX1_search 49 = .ok (.getfield 59, 3) := by decide +kernel
theorem dX1_search_52 : decode cX1_search 52 = .ok (.iconst 1, 1) := by decide +kernel
theorem dX1_search_53 : decode cX1_search 53 = .ok (.iadd, 1) := by decide +kernel
theorem dX1_search_54 : decode cX1_search 54 = .ok (.istore 5, 2) := by decide +kernel
theorem dX1_search_56 : decode cX1_search 56 = .ok (.iload 5, 2) := by decide +kernel
theorem dX1_search_58 : decode cX1_search 58 = .ok (.aload_n 0, 1) := by decide +kernel
theorem dX1_search_59 : decode cX1_search 59 = .ok (.getfield 59, 3) := by decide +kernel
theorem dX1_search_62 : decode cX1_search 62 = .ok (.iload_n 1, 1) := by decide +kernel
theorem dX1_search_63 : decode cX1_search 63 = .ok (.iadd, 1) := by decide +kernel
theorem dX1_search_64 : decode cX1_search 64 = .ok (.if_icmp .gt 83, 3) := by decide +kernel
theorem dX1_search_67 : decode cX1_search 67 = .ok (.iload_n 3, 1) := by decide +kernel
theorem dX1_search_68 : decode cX1_search 68 = .ok (.ifCond .ne 13, 3) := by decide +kernel
theorem dX1_search_71 : decode cX1_search 71 = .ok (.aload_n 0, 1) := by decide +kernel
theorem dX1_search_72 : decode cX1_search 72 = .ok (.getfield 49, 3) := by decide +kernel
theorem dX1_search_75 : decode cX1_search 75 = .ok (.iload 5, 2) := by decide +kernel
theorem dX1_search_77 : decode cX1_search 77 = .ok (.baload, 1) := by decide +kernel
theorem dX1_search_78 : decode cX1_search 78 = .ok (.ifCond .eq 7, 3) := by decide +kernel
theorem dX1_search_81 : decode cX1_search 81 = .ok (.iconst 1, 1) := by decide +kernel
theorem dX1_search_82 : decode cX1_search 82 = .ok (.goto 4, 3) := by decide +kernel
theorem dX1_search_85 : decode cX1_search 85 = .ok (.iconst 0, 1) := by decide +kernel
theorem dX1_search_86 : decode cX1_search 86 = .ok (.istore_n 3, 1) := by decide +kernel
theorem dX1_search_87 : decode cX1_search 87 = .ok (.iload 4, 2) := by decide +kernel
theorem dX1_search_89 : decode cX1_search 89 = .ok (.ifCond .ne 45, 3) := by decide +kernel
theorem dX1_search_92 : decode cX1_search 92 = .ok (.aload_n 0, 1) := by decide +kernel
theorem dX1_search_93 : decode cX1_search 93 = .ok (.getfield 49, 3) := by decide +kernel
theorem dX1_search_96 : decode cX1_search 96 = .ok (.aload_n 0, 1) := by decide +kernel
theorem dX1_search_97 : decode cX1_search 97 = .ok (.getfield 59, 3) := by decide +kernel
theorem dX1_search_100 : decode cX1_search 100 = .ok (.baload, 1) := by decide +kernel
theorem dX1_search_101 : decode cX1_search 101 = .ok (.ifCond .ne 37, 3) := by decide +kernel
theorem dX1_search_104 : decode cX1_search 104 = .ok (.aload_n 0, 1) := by decide +kernel
theorem dX1_search_105 : decode cX1_search 105 = .ok (.getfield 49, 3) := by decide +kernel
theorem dX1_search_108 : decode cX1_search 108 = .ok (.iload 5, 2) := by decide +kernel
theorem dX1_search_110 : decode cX1_search 110 = .ok (.baload, 1) := by decide +kernel
theorem dX1_search_111 : decode cX1_search 111 = .ok (.ifCond .ne 27, 3) := by decide +kernel
theorem dX1_search_114 : decode cX1_search 114 = .ok (.aload_n 0, 1) := by decide +kernel
theorem dX1_search_115 : decode cX1_search 115 = .ok (.getfield 46, 3) := by decide +kernel
theorem dX1_search_118 : decode cX1_search 118 = .ok (.iload 5, 2) := by decide +kernel
theorem dX1_search_120 : decode cX1_search 120 = .ok (.laload, 1) := by decide +kernel
theorem dX1_search_121 : decode cX1_search 121 = .ok (.aload_n 0, 1) := by decide +kernel
theorem dX1_search_122 : decode cX1_search 122 = .ok (.getfield 46, 3) := by decide +kernel
theorem dX1_search_125 : decode cX1_search 125 = .ok (.aload_n 0, 1) := by decide +kernel
theorem dX1_search_126 : decode cX1_search 126 = .ok (.getfield 59, 3) := by decide +kernel
theorem dX1_search_129 : decode cX1_search 129 = .ok (.laload, 1) := by decide +kernel
theorem dX1_search_130 : decode cX1_search 130 = .ok (.lcmp, 1) := by decide +kernel
theorem dX1_search_131 : decode cX1_search 131 = .ok (.ifCond .ne 7, 3) := by decide +kernel
theorem dX1_search_134 : decode cX1_search 134 = .ok (.iconst 1, 1) := by decide +kernel
theorem dX1_search_135 : decode cX1_search 135 = .ok (.goto 4, 3) := by decide +kernel
theorem dX1_search_138 : decode cX1_search 138 = .ok (.iconst 0, 1) := by decide +kernel
theorem dX1_search_139 : decode cX1_search 139 = .ok (.istore 4, 2) := by decide +kernel
theorem dX1_search_141 : decode cX1_search 141 = .ok (.iinc 5 1, 3) := by decide +kernel
theorem dX1_search_144 : decode cX1_search 144 = .ok (.goto (-88), 3) := by decide +kernel
theorem dX1_search_147 : decode cX1_search 147 = .ok (.aload_n 0, 1) := by decide +kernel
theorem dX1_search_148 : decode cX1_search 148 = .ok (.iload 4, 2) := by decide +kernel
theorem dX1_search_150 : decode cX1_search 150 = .ok (.ifCond .eq 8, 3) := by decide +kernel
theorem dX1_search_153 : decode cX1_search 153 = .ok (.iload_n 2, 1) := by decide +kernel
theorem dX1_search_154 : decode cX1_search 154 = .ok (.i2l, 1) := by decide +kernel
theorem dX1_search_155 : decode cX1_search 155 = .ok (.goto 7, 3) := by decide +kernel
theorem dX1_search_158 : decode cX1_search 158 = .ok (.iconst 1, 1) := by decide +kernel
theorem dX1_search_159 : decode cX1_search 159 = .ok (.iload_n 2, 1) := by decide +kernel
theorem dX1_search_160 : decode cX1_search 160 = .ok (.isub, 1) := by decide +kernel
theorem dX1_search_161 : decode cX1_search 161 = .ok (.i2l, 1) := by decide +kernel
theorem dX1_search_162 : decode cX1_search 162 = .ok (.iload 4, 2) := by decide +kernel
theorem dX1_search_164 : decode cX1_search 164 = .ok (.ifCond .ne 11, 3) := by decide +kernel
theorem dX1_search_167 : decode cX1_search 167 = .ok (.iload_n 3, 1) := by decide +kernel
theorem dX1_search_168 : decode cX1_search 168 = .ok (.ifCond .eq 7, 3) := by decide +kernel
theorem dX1_search_171 : decode cX1_search 171 = .ok (.iconst 1, 1) := by decide +kernel
theorem dX1_search_172 : decode cX1_search 172 = .ok (.goto 4, 3) := by decide +kernel
theorem dX1_search_175 : decode cX1_search 175 = .ok (.iconst 0, 1) := by decide +kernel
theorem dX1_search_176 : decode cX1_search 176 = .ok (.invokevirtual 66, 3) := by decide +kernel
theorem dX1_search_179 : decode cX1_search 179 = .ok (.return_, 1) := by decide +kernel
def c_X1_search_b14 (F : Nat) (cs1 : CS) : Option CS := some cs1
def c_X1_search_b176 (F : Nat) (cs1 : CS) (y0 : Int32) (y1 : Int64) (y2 : Nat) : Option CS := Option.bind (ckE cs1 2 y2) fun _ => Option.bind (c_X1_push F cs1 y2 y1 y0) fun cs_1 => some cs_1
def c_X1_search_b175 (F : Nat) (cs1 : CS) (y0 : Int64) (y1 : Nat) : Option CS := c_X1_search_b176 F cs1 0 y0 y1
def c_X1_search_b162 (F : Nat) (cs1 : CS) (u3 : Int32) (u4 : Int32) (y0 : Int64) (y1 : Nat) : Option CS := if u4 = 0 then (if u3 = 0 then (c_X1_search_b175 F cs1 y0 y1) else (c_X1_search_b176 F cs1 1 y0 y1)) else (c_X1_search_b175 F cs1 y0 y1)
def c_X1_search_b139 (F : Nat) (rc56 : CS → Nat → Int32 → Int32 → Int32 → Int32 → Int32 → Option CS) (cs1 : CS) (u0 : Nat) (u1 : Int32) (u2 : Int32) (u3 : Int32) (u5 : Int32) (y0 : Int32) : Option CS := rc56 cs1 u0 u1 u2 u3 y0 (u5 + 1)
def c_X1_search_b134 (F : Nat) (rc56 : CS → Nat → Int32 → Int32 → Int32 → Int32 → Int32 → Option CS) (cs1 : CS) (u0 : Nat) (u1 : Int32) (u2 : Int32) (u3 : Int32) (u5 : Int32) : Option CS := c_X1_search_b139 F rc56 cs1 u0 u1 u2 u3 u5 1
def c_X1_search_b138 (F : Nat) (rc56 : CS → Nat → Int32 → Int32 → Int32 → Int32 → Int32 → Option CS) (cs1 : CS) (u0 : Nat) (u1 : Int32) (u2 : Int32) (u3 : Int32) (u5 : Int32) : Option CS := c_X1_search_b139 F rc56 cs1 u0 u1 u2 u3 u5 0
def c_X1_search_b86 (F : Nat) (rc56 : CS → Nat → Int32 → Int32 → Int32 → Int32 → Int32 → Option CS) (cs1 : CS) (u0 : Nat) (u1 : Int32) (u2 : Int32) (u4 : Int32) (u5 : Int32) (y0 : Int32) : Option CS := if u4 = 0 then (Option.bind (gA cs1 2 75 u0) fun v_6 => Option.bind (gI cs1 2 76 u0) fun v_7 => Option.bind (rA cs1 75 u0 v_6 v_7) fun v_8 => if v_8 = 0 then (Option.bind (gA cs1 2 75 u0) fun v_10 => Option.bind (rA cs1 75 u0 v_10 u5) fun v_11 => if v_11 = 0 then (Option.bind (gA cs1 2 74 u0) fun v_13 => Option.bind (rB cs1 74 u0 v_13 u5) fun v_14 => Option.bind (gA cs1 2 74 u0) fun v_15 => Option.bind (gI cs1 2 76 u0) fun v_16 => Option.bind (rB cs1 74 u0 v_15 v_16) fun v_17 => if v_14 = v_17 then (c_X1_search_b134 F rc56 cs1 u0 u1 u2 y0 u5) else (c_X1_search_b138 F rc56 cs1 u0 u1 u2 y0 u5)) else (c_X1_search_b138 F rc56 cs1 u0 u1 u2 y0 u5)) else (c_X1_search_b138 F rc56 cs1 u0 u1 u2 y0 u5)) else (c_X1_search_b134 F rc56 cs1 u0 u1 u2 y0 u5)
def c_X1_search_b81 (F : Nat) (rc56 : CS → Nat → Int32 → Int32 → Int32 → Int32 → Int32 → Option CS) (cs1 : CS) (u0 : Nat) (u1 : Int32) (u2 : Int32) (u4 : Int32) (u5 : Int32) : Option CS := c_X1_search_b86 F rc56 cs1 u0 u1 u2 u4 u5 1
def c_X1_search_L56 (F : Nat) : Nat → CS → Nat → Int32 → Int32 → Int32 → Int32 → Int32 → Option CS
  | 0, _, _, _, _, _, _, _ => none
  | lf_56 + 1, cs1, u0, u1, u2, u3, u4, u5 => Option.bind (gI cs1 2 76 u0) fun v_19 => if (v_19 + u1) < u5 then (if u4 = 0 then (c_X1_search_b162 F cs1 u3 u4 ((1 - u2 : Int32).toInt64) u0) else (c_X1_search_b162 F cs1 u3 u4 ((u2 : Int32).toInt64) u0)) else (if u3 = 0 then (Option.bind (gA cs1 2 75 u0) fun v_23 => Option.bind (rA cs1 75 u0 v_23 u5) fun v_24 => if v_24 = 0 then (c_X1_search_b86 F (c_X1_search_L56 F lf_56) cs1 u0 u1 u2 u4 u5 0) else (c_X1_search_b81 F (c_X1_search_L56 F lf_56) cs1 u0 u1 u2 u4 u5)) else (c_X1_search_b81 F (c_X1_search_L56 F lf_56) cs1 u0 u1 u2 u4 u5))
def c_X1_search_b44 (F : Nat) (cs1 : CS) (u0 : Nat) (u1 : Int32) (u2 : Int32) (y0 : Int32) : Option CS := Option.bind (gI cs1 2 76 u0) fun v_26 => c_X1_search_L56 F F cs1 u0 u1 u2 y0 0 (v_26 + 1)
def c_X1_search (F : Nat) (cs : CS) (x0 : Nat) (x1 : Int32) (x2 : Int32) : Option CS := if x1 < 0 then (c_X1_search_b14 F cs) else (Option.bind (gI cs 2 76 x0) fun v_28 => if (x1 + 1) ≤ v_28 then (Option.bind (gI cs 2 76 x0) fun v_30 => Option.bind (pI cs 2 76 x0 (v_30 - (x1 + 1))) fun cs_31 => Option.bind (gA cs_31 2 75 x0) fun v_32 => Option.bind (gI cs_31 2 76 x0) fun v_33 => Option.bind (rA cs_31 75 x0 v_32 v_33) fun v_34 => if v_34 = 0 then (c_X1_search_b44 F cs_31 x0 x1 x2 0) else (c_X1_search_b44 F cs_31 x0 x1 x2 1)) else (c_X1_search_b14 F cs))
theorem cw_X1_X1_search {R : Room} {s : State} {args : Array Value} {y0 : MethodName} {c0 : ByteArray} {n0 : Nat} {r0 : Option FieldType} (hts : ∀ w ∈ wsOf y0 c0 n0 r0, w.before args s = true) {fr : Nat} (h1 : fr + 1 ≤ R.frames) (h2 : 8 + (6 + 11) + 60 * fr ≤ R.locals) : CallW R s args RX1 RX1 86 yX1_search cX1_search 6 none (wsOf yX1_search cX1_search 6 none) ({ frames := fr, cells := 0, slots := 0, locals := 60 * fr } : Room) 0 0 2 := cwV 2 hts (gd_all (in_V kw_1438 kw_1440 kw_76 kw_189 kc_X1_search)) rfl rfl rfl (by decide +kernel) ⟨h1, h2⟩
set_option maxHeartbeats 4000000 in
set_option maxRecDepth 100000 in
theorem sc_X1_search (l : Launch) (dC : Nat → ClassId) (dI : Nat → Nat → Nat) (cB cI cJ cZ cS cO : ClassId) (b : Nat) (K V : Nat → Nat) (fz : Value) (F : Nat) (cs : CS) (x0 : Nat) (x1 : Int32) (x2 : Int32) (cs9 : CS) (hf : c_X1_search F cs x0 x1 x2 = some cs9) : ocV l dC dI cB cI cJ cZ cS cO b K V fz yX1_search (wsOf yX1_search cX1_search 6 none) (1) [.ref (b + x0), .int x1, .int x2] cs cs9 := by
  intro sz
  refine Met.ofW (cc := cX1_search) (maxL := 6) (ret := none) (by decide) rfl ?_
  intro p e s m args below meth c s₁ B hml hv
  obtain ⟨rfl, hsz, hP, hK, hD0, hZ⟩ := hv
  have hx := B.exec
  have hb := B.bytes
  have hr := B.returns
  have hts := atoms_spec (ws := (wsOf yX1_search cX1_search 6 none)) B.pre
  have hown : s.vm.findClass RX1 = some m.cls := findClass_of_methodNamed B.named
  have hlocks := B.notSynchronized
  subst hsz
  have hD := hD0.self (sz := s.heap.size)
  generalize hAe : va_A (cW cB cI cJ cZ cS cO b cs) s.heap.size = A at hD hZ ⊢
  have hA : ∀ q : Nat, s.heap.size ≤ q → A q := fun q h => by rw [← hAe]; exact Or.inr h
  have hS : va_S A s.heap s.heap [] := va_S.rf
  have hl := lv_entry ([.ref (b + x0), .int x1, .int x2]) (n := 6) (Nat.le_of_ble_eq_true rfl)
  rw [lg_entry_eq]
  generalize (lg_sl ([.ref (b + x0), .int x1, .int x2]) ++ List.replicate (6 - (lg_sl ([.ref (b + x0), .int x1, .int x2])).length) Slot.unset).toArray = ls at hl ⊢
  have hl : lv_has ls 6 [(0, .ref (b + x0)), (1, .int x1), (2, .int x2)] := hl
  have B_14 : ∀ (cs1 : CS) , c_X1_search_b14 F cs1 = some cs9 → ∀ (H : Heap) (locs : List Loc) (ls : Array Slot), va_P (dC, dI) vwCl (cW cB cI cJ cZ cS cO b cs1) H → va_D A (cW cB cI cJ cZ cS cO b cs1) → va_S A s.heap H locs → lv_has ls 6 [] → W p l e (headSpec (wsOf yX1_search cX1_search 6 none) ({ frames := 1, cells := 0, slots := 0, locals := 60 * (1) } : Room)).room s m ([.ref (b + x0), .int x1, .int x2] : List Value).toArray below meth c H locs 0 0 (MQ below (va_Qv (fun (_ : Unit) => True) (fun _ t_ => va_P (dC, dI) vwCl (cW cB cI cJ cZ cS cO b cs9) t_.heap ∧ va_D A (cW cB cI cJ cZ cS cO b cs9)) A) ([.ref (b + x0), .int x1, .int x2] : List Value).toArray s 0 0 A) (F0 m 14 ls []) := by
    intro cs1  h H locs ls hP hD hS hl
    unfold c_X1_search_b14 at h
    have e1 := Option.some.inj h
    rw [e1] at hP hD
    exact W.vret hx hb hr (fun t_ ht hW => ⟨⟨(), rfl, trivial, by rw [ht]; exact hP, hD⟩, hS.F ht⟩) hS.2.2 dX1_search_14
  have B_176 : ∀ (cs1 : CS) (y0 : Int32) (y1 : Int64) (y2 : Nat), c_X1_search_b176 F cs1 y0 y1 y2 = some cs9 → ∀ (H : Heap) (locs : List Loc) (ls : Array Slot), va_P (dC, dI) vwCl (cW cB cI cJ cZ cS cO b cs1) H → va_D A (cW cB cI cJ cZ cS cO b cs1) → va_S A s.heap H locs → lv_has ls 6 [] → W p l e (headSpec (wsOf yX1_search cX1_search 6 none) ({ frames := 1, cells := 0, slots := 0, locals := 60 * (1) } : Room)).room s m ([.ref (b + x0), .int x1, .int x2] : List Value).toArray below meth c H locs 0 0 (MQ below (va_Qv (fun (_ : Unit) => True) (fun _ t_ => va_P (dC, dI) vwCl (cW cB cI cJ cZ cS cO b cs9) t_.heap ∧ va_D A (cW cB cI cJ cZ cS cO b cs9)) A) ([.ref (b + x0), .int x1, .int x2] : List Value).toArray s 0 0 A) (F0 m 176 ls [.int y0, .long y1, .ref (b + y2)]) := by
    intro cs1 y0 y1 y2 h H locs ls hP hD hS hl
    unfold c_X1_search_b176 at h
    replace h := ob h; obtain ⟨w_2, hw_2, h⟩ := h
    replace h := ob h; obtain ⟨cs_1, hv_1, h⟩ := h
    refine ccV (As := [.long y1, .int y0]) hx hb hml hts hown hK hP hD hS hA hZ (X := 2) (by decide) rfl (ckE_some hw_2) (sc_X1_push l dC dI cB cI cJ cZ cS cO b K V fz F cs1 y2 y1 y0 cs_1 hv_1) (cw_X1_X1_push hts (fr := 0) (Nat.le_of_ble_eq_true rfl) (Nat.le_of_ble_eq_true rfl)) rfl hl.1 (Nat.le_of_ble_eq_true rfl) ⟨Nat.zero_le _, Nat.zero_le _⟩ dX1_search_176 (fun H locs hP hD hS => ?_)
    have e1 := Option.some.inj h
    rw [e1] at hP hD
    exact W.vret hx hb hr (fun t_ ht hW => ⟨⟨(), rfl, trivial, by rw [ht]; exact hP, hD⟩, hS.F ht⟩) hS.2.2 dX1_search_179
  have B_175 : ∀ (cs1 : CS) (y0 : Int64) (y1 : Nat), c_X1_search_b175 F cs1 y0 y1 = some cs9 → ∀ (H : Heap) (locs : List Loc) (ls : Array Slot), va_P (dC, dI) vwCl (cW cB cI cJ cZ cS cO b cs1) H → va_D A (cW cB cI cJ cZ cS cO b cs1) → va_S A s.heap H locs → lv_has ls 6 [] → W p l e (headSpec (wsOf yX1_search cX1_search 6 none) ({ frames := 1, cells := 0, slots := 0, locals := 60 * (1) } : Room)).room s m ([.ref (b + x0), .int x1, .int x2] : List Value).toArray below meth c H locs 0 0 (MQ below (va_Qv (fun (_ : Unit) => True) (fun _ t_ => va_P (dC, dI) vwCl (cW cB cI cJ cZ cS cO b cs9) t_.heap ∧ va_D A (cW cB cI cJ cZ cS cO b cs9)) A) ([.ref (b + x0), .int x1, .int x2] : List Value).toArray s 0 0 A) (F0 m 175 ls [.long y0, .ref (b + y1)]) := by
    intro cs1 y0 y1 h H locs ls hP hD hS hl
    unfold c_X1_search_b175 at h
    refine lv_iconst (v := 0) hx hb dX1_search_175 (by decide) ?_
    exact B_176 cs1 0 y0 y1 h _ _ _ hP hD hS (lv_sub hl [] rfl)
  have B_162 : ∀ (cs1 : CS) (u3 : Int32) (u4 : Int32) (y0 : Int64) (y1 : Nat), c_X1_search_b162 F cs1 u3 u4 y0 y1 = some cs9 → ∀ (H : Heap) (locs : List Loc) (ls : Array Slot), va_P (dC, dI) vwCl (cW cB cI cJ cZ cS cO b cs1) H → va_D A (cW cB cI cJ cZ cS cO b cs1) → va_S A s.heap H locs → lv_has ls 6 [(3, .int u3), (4, .int u4)] → W p l e (headSpec (wsOf yX1_search cX1_search 6 none) ({ frames := 1, cells := 0, slots := 0, locals := 60 * (1) } : Room)).room s m ([.ref (b + x0), .int x1, .int x2] : List Value).toArray below meth c H locs 0 0 (MQ below (va_Qv (fun (_ : Unit) => True) (fun _ t_ => va_P (dC, dI) vwCl (cW cB cI cJ cZ cS cO b cs9) t_.heap ∧ va_D A (cW cB cI cJ cZ cS cO b cs9)) A) ([.ref (b + x0), .int x1, .int x2] : List Value).toArray s 0 0 A) (F0 m 162 ls [.long y0, .ref (b + y1)]) := by
    intro cs1 u3 u4 y0 y1 h H locs ls hP hD hS hl
    unfold c_X1_search_b162 at h
    refine lv_iload hx hb dX1_search_162 (lv_at hl 1 rfl) ?_
    refine lv_if_ne (tgt := 175) hx hb dX1_search_164 (by decide) (fun c_3 => ?_) (fun c_3 => ?_)
    · skip
      replace h := (if_neg c_3).symm.trans h
      exact B_175 cs1 y0 y1 h _ _ _ hP hD hS (lv_sub hl [] rfl)
    · skip
      replace h := (if_pos c_3).symm.trans h
      refine lv_iload_n hx hb dX1_search_167 rfl (lv_at hl 0 rfl) ?_
      refine lv_if_eq (tgt := 175) hx hb dX1_search_168 (by decide) (fun c_4 => ?_) (fun c_4 => ?_)
      · skip
        replace h := (if_pos c_4).symm.trans h
        exact B_175 cs1 y0 y1 h _ _ _ hP hD hS (lv_sub hl [] rfl)
      · skip
        replace h := (if_neg c_4).symm.trans h
        refine lv_iconst (v := 1) hx hb dX1_search_171 (by decide) ?_
        refine lv_goto (tgt := 176) hx hb dX1_search_172 (by decide) ?_
        exact B_176 cs1 1 y0 y1 h _ _ _ hP hD hS (lv_sub hl [] rfl)
  have L_56 : ∀ (lf_56 : Nat), ∀ (cs1 : CS) (u0 : Nat) (u1 : Int32) (u2 : Int32) (u3 : Int32) (u4 : Int32) (u5 : Int32), c_X1_search_L56 F lf_56 cs1 u0 u1 u2 u3 u4 u5 = some cs9 → ∀ (H : Heap) (locs : List Loc) (ls : Array Slot), va_P (dC, dI) vwCl (cW cB cI cJ cZ cS cO b cs1) H → va_D A (cW cB cI cJ cZ cS cO b cs1) → va_S A s.heap H locs → lv_has ls 6 [(0, .ref (b + u0)), (1, .int u1), (2, .int u2), (3, .int u3), (4, .int u4), (5, .int u5)] → W p l e (headSpec (wsOf yX1_search cX1_search 6 none) ({ frames := 1, cells := 0, slots := 0, locals := 60 * (1) } : Room)).room s m ([.ref (b + x0), .int x1, .int x2] : List Value).toArray below meth c H locs 0 0 (MQ below (va_Qv (fun (_ : Unit) => True) (fun _ t_ => va_P (dC, dI) vwCl (cW cB cI cJ cZ cS cO b cs9) t_.heap ∧ va_D A (cW cB cI cJ cZ cS cO b cs9)) A) ([.ref (b + x0), .int x1, .int x2] : List Value).toArray s 0 0 A) (F0 m 56 ls []) := by
    intro lf_56
    induction lf_56 with
    | zero => intro cs1 u0 u1 u2 u3 u4 u5 h; cases (show (none : Option CS) = _ from h)
    | succ lf_56 ih_56 =>
      have B_139 : ∀ (cs1 : CS) (u0 : Nat) (u1 : Int32) (u2 : Int32) (u3 : Int32) (u5 : Int32) (y0 : Int32), c_X1_search_b139 F (c_X1_search_L56 F lf_56) cs1 u0 u1 u2 u3 u5 y0 = some cs9 → ∀ (H : Heap) (locs : List Loc) (ls : Array Slot), va_P (dC, dI) vwCl (cW cB cI cJ cZ cS cO b cs1) H → va_D A (cW cB cI cJ cZ cS cO b cs1) → va_S A s.heap H locs → lv_has ls 6 [(0, .ref (b + u0)), (1, .int u1), (2, .int u2), (3, .int u3), (5, .int u5)] → W p l e (headSpec (wsOf yX1_search cX1_search 6 none) ({ frames := 1, cells := 0, slots := 0, locals := 60 * (1) } : Room)).room s m ([.ref (b + x0), .int x1, .int x2] : List Value).toArray below meth c H locs 0 0 (MQ below (va_Qv (fun (_ : Unit) => True) (fun _ t_ => va_P (dC, dI) vwCl (cW cB cI cJ cZ cS cO b cs9) t_.heap ∧ va_D A (cW cB cI cJ cZ cS cO b cs9)) A) ([.ref (b + x0), .int x1, .int x2] : List Value).toArray s 0 0 A) (F0 m 139 ls [.int y0]) := by
        intro cs1 u0 u1 u2 u3 u5 y0 h H locs ls hP hD hS hl
        unfold c_X1_search_b139 at h
        refine lv_istore (lv' := [(4, .int y0), (0, .ref (b + u0)), (1, .int u1), (2, .int u2), (3, .int u3), (5, .int u5)]) hx hb dX1_search_139 hl (by decide) rfl (fun ls hl => ?_)
        refine lv_iinc (v := u5 + 1) (lv' := [(5, .int (u5 + 1)), (4, .int y0), (0, .ref (b + u0)), (1, .int u1), (2, .int u2), (3, .int u3)]) hx hb dX1_search_141 hl (k := 5) rfl rfl (by decide) rfl (fun ls hl => ?_)
        refine lv_goto (tgt := 56) hx hb dX1_search_144 (by decide) ?_
        exact ih_56 cs1 u0 u1 u2 u3 y0 (u5 + 1) h _ _ _ hP hD hS (lv_sub hl [2, 3, 4, 5, 1, 0] rfl)
      have B_134 : ∀ (cs1 : CS) (u0 : Nat) (u1 : Int32) (u2 : Int32) (u3 : Int32) (u5 : Int32), c_X1_search_b134 F (c_X1_search_L56 F lf_56) cs1 u0 u1 u2 u3 u5 = some cs9 → ∀ (H : Heap) (locs : List Loc) (ls : Array Slot), va_P (dC, dI) vwCl (cW cB cI cJ cZ cS cO b cs1) H → va_D A (cW cB cI cJ cZ cS cO b cs1) → va_S A s.heap H locs → lv_has ls 6 [(0, .ref (b + u0)), (1, .int u1), (2, .int u2), (3, .int u3), (5, .int u5)] → W p l e (headSpec (wsOf yX1_search cX1_search 6 none) ({ frames := 1, cells := 0, slots := 0, locals := 60 * (1) } : Room)).room s m ([.ref (b + x0), .int x1, .int x2] : List Value).toArray below meth c H locs 0 0 (MQ below (va_Qv (fun (_ : Unit) => True) (fun _ t_ => va_P (dC, dI) vwCl (cW cB cI cJ cZ cS cO b cs9) t_.heap ∧ va_D A (cW cB cI cJ cZ cS cO b cs9)) A) ([.ref (b + x0), .int x1, .int x2] : List Value).toArray s 0 0 A) (F0 m 134 ls []) := by
        intro cs1 u0 u1 u2 u3 u5 h H locs ls hP hD hS hl
        unfold c_X1_search_b134 at h
        refine lv_iconst (v := 1) hx hb dX1_search_134 (by decide) ?_
        refine lv_goto (tgt := 139) hx hb dX1_search_135 (by decide) ?_
        exact B_139 cs1 u0 u1 u2 u3 u5 1 h _ _ _ hP hD hS (lv_sub hl [0, 1, 2, 3, 4] rfl)
      have B_138 : ∀ (cs1 : CS) (u0 : Nat) (u1 : Int32) (u2 : Int32) (u3 : Int32) (u5 : Int32), c_X1_search_b138 F (c_X1_search_L56 F lf_56) cs1 u0 u1 u2 u3 u5 = some cs9 → ∀ (H : Heap) (locs : List Loc) (ls : Array Slot), va_P (dC, dI) vwCl (cW cB cI cJ cZ cS cO b cs1) H → va_D A (cW cB cI cJ cZ cS cO b cs1) → va_S A s.heap H locs → lv_has ls 6 [(0, .ref (b + u0)), (1, .int u1), (2, .int u2), (3, .int u3), (5, .int u5)] → W p l e (headSpec (wsOf yX1_search cX1_search 6 none) ({ frames := 1, cells := 0, slots := 0, locals := 60 * (1) } : Room)).room s m ([.ref (b + x0), .int x1, .int x2] : List Value).toArray below meth c H locs 0 0 (MQ below (va_Qv (fun (_ : Unit) => True) (fun _ t_ => va_P (dC, dI) vwCl (cW cB cI cJ cZ cS cO b cs9) t_.heap ∧ va_D A (cW cB cI cJ cZ cS cO b cs9)) A) ([.ref (b + x0), .int x1, .int x2] : List Value).toArray s 0 0 A) (F0 m 138 ls []) := by
        intro cs1 u0 u1 u2 u3 u5 h H locs ls hP hD hS hl
        unfold c_X1_search_b138 at h
        refine lv_iconst (v := 0) hx hb dX1_search_138 (by decide) ?_
        exact B_139 cs1 u0 u1 u2 u3 u5 0 h _ _ _ hP hD hS (lv_sub hl [0, 1, 2, 3, 4] rfl)
      have B_86 : ∀ (cs1 : CS) (u0 : Nat) (u1 : Int32) (u2 : Int32) (u4 : Int32) (u5 : Int32) (y0 : Int32), c_X1_search_b86 F (c_X1_search_L56 F lf_56) cs1 u0 u1 u2 u4 u5 y0 = some cs9 → ∀ (H : Heap) (locs : List Loc) (ls : Array Slot), va_P (dC, dI) vwCl (cW cB cI cJ cZ cS cO b cs1) H → va_D A (cW cB cI cJ cZ cS cO b cs1) → va_S A s.heap H locs → lv_has ls 6 [(0, .ref (b + u0)), (1, .int u1), (2, .int u2), (4, .int u4), (5, .int u5)] → W p l e (headSpec (wsOf yX1_search cX1_search 6 none) ({ frames := 1, cells := 0, slots := 0, locals := 60 * (1) } : Room)).room s m ([.ref (b + x0), .int x1, .int x2] : List Value).toArray below meth c H locs 0 0 (MQ below (va_Qv (fun (_ : Unit) => True) (fun _ t_ => va_P (dC, dI) vwCl (cW cB cI cJ cZ cS cO b cs9) t_.heap ∧ va_D A (cW cB cI cJ cZ cS cO b cs9)) A) ([.ref (b + x0), .int x1, .int x2] : List Value).toArray s 0 0 A) (F0 m 86 ls [.int y0]) := by
        intro cs1 u0 u1 u2 u4 u5 y0 h H locs ls hP hD hS hl
        unfold c_X1_search_b86 at h
        refine lv_istore_n (lv' := [(3, .int y0), (0, .ref (b + u0)), (1, .int u1), (2, .int u2), (4, .int u4), (5, .int u5)]) hx hb dX1_search_86 rfl hl (by decide) rfl (fun ls hl => ?_)
        refine lv_iload hx hb dX1_search_87 (lv_at hl 4 rfl) ?_
        refine lv_if_ne (tgt := 134) hx hb dX1_search_89 (by decide) (fun c_5 => ?_) (fun c_5 => ?_)
        · skip
          replace h := (if_neg c_5).symm.trans h
          exact B_134 cs1 u0 u1 u2 y0 u5 h _ _ _ hP hD hS (lv_sub hl [1, 2, 3, 0, 5] rfl)
        · skip
          replace h := (if_pos c_5).symm.trans h
          refine lv_aload_n hx hb dX1_search_92 rfl (lv_at hl 1 rfl) ?_
          replace h := ob h; obtain ⟨v_6, hv_6, h⟩ := h
          refine fg_X1_49 hx hb hts hown hK hP hv_6 dX1_search_93 ?_
          refine lv_aload_n hx hb dX1_search_96 rfl (lv_at hl 1 rfl) ?_
          replace h := ob h; obtain ⟨v_7, hv_7, h⟩ := h
          refine fg_X1_59 hx hb hts hown hK hP hv_7 dX1_search_97 ?_
          replace h := ob h; obtain ⟨v_8, hv_8, h⟩ := h
          refine ald1 hx hb hK hP rfl hv_8 dX1_search_100 ?_
          refine lv_if_ne (tgt := 138) hx hb dX1_search_101 (by decide) (fun c_9 => ?_) (fun c_9 => ?_)
          · skip
            replace h := (if_neg c_9).symm.trans h
            exact B_138 cs1 u0 u1 u2 y0 u5 h _ _ _ hP hD hS (lv_sub hl [1, 2, 3, 0, 5] rfl)
          · skip
            replace h := (if_pos c_9).symm.trans h
            refine lv_aload_n hx hb dX1_search_104 rfl (lv_at hl 1 rfl) ?_
            replace h := ob h; obtain ⟨v_10, hv_10, h⟩ := h
            refine fg_X1_49 hx hb hts hown hK hP hv_10 dX1_search_105 ?_
            refine lv_iload hx hb dX1_search_108 (lv_at hl 5 rfl) ?_
            replace h := ob h; obtain ⟨v_11, hv_11, h⟩ := h
            refine ald1 hx hb hK hP rfl hv_11 dX1_search_110 ?_
            refine lv_if_ne (tgt := 138) hx hb dX1_search_111 (by decide) (fun c_12 => ?_) (fun c_12 => ?_)
            · skip
              replace h := (if_neg c_12).symm.trans h
              exact B_138 cs1 u0 u1 u2 y0 u5 h _ _ _ hP hD hS (lv_sub hl [1, 2, 3, 0, 5] rfl)
            · skip
              replace h := (if_pos c_12).symm.trans h
              refine lv_aload_n hx hb dX1_search_114 rfl (lv_at hl 1 rfl) ?_
              replace h := ob h; obtain ⟨v_13, hv_13, h⟩ := h
              refine fg_X1_46 hx hb hts hown hK hP hv_13 dX1_search_115 ?_
              refine lv_iload hx hb dX1_search_118 (lv_at hl 5 rfl) ?_
              replace h := ob h; obtain ⟨v_14, hv_14, h⟩ := h
              refine ald2 hx hb hK hP rfl hv_14 dX1_search_120 ?_
              refine lv_aload_n hx hb dX1_search_121 rfl (lv_at hl 1 rfl) ?_
              replace h := ob h; obtain ⟨v_15, hv_15, h⟩ := h
              refine fg_X1_46 hx hb hts hown hK hP hv_15 dX1_search_122 ?_
              refine lv_aload_n hx hb dX1_search_125 rfl (lv_at hl 1 rfl) ?_
              replace h := ob h; obtain ⟨v_16, hv_16, h⟩ := h
              refine fg_X1_59 hx hb hts hown hK hP hv_16 dX1_search_126 ?_
              replace h := ob h; obtain ⟨v_17, hv_17, h⟩ := h
              refine ald2 hx hb hK hP rfl hv_17 dX1_search_129 ?_
              refine W.lcmp hx hb dX1_search_130 ?_
              refine lv_if_ne (tgt := 138) hx hb dX1_search_131 (by decide) (fun c_18 => ?_) (fun c_18 => ?_)
              · skip
                have c_18 : ¬ (v_14 = v_17) := fun h9 => c_18 ((lg_cmp_eq _ _).mpr h9)
                replace h := (if_neg c_18).symm.trans h
                exact B_138 cs1 u0 u1 u2 y0 u5 h _ _ _ hP hD hS (lv_sub hl [1, 2, 3, 0, 5] rfl)
              · skip
                have c_18 : v_14 = v_17 := (lg_cmp_eq _ _).mp c_18
                replace h := (if_pos c_18).symm.trans h
                exact B_134 cs1 u0 u1 u2 y0 u5 h _ _ _ hP hD hS (lv_sub hl [1, 2, 3, 0, 5] rfl)
      have B_81 : ∀ (cs1 : CS) (u0 : Nat) (u1 : Int32) (u2 : Int32) (u4 : Int32) (u5 : Int32), c_X1_search_b81 F (c_X1_search_L56 F lf_56) cs1 u0 u1 u2 u4 u5 = some cs9 → ∀ (H : Heap) (locs : List Loc) (ls : Array Slot), va_P (dC, dI) vwCl (cW cB cI cJ cZ cS cO b cs1) H → va_D A (cW cB cI cJ cZ cS cO b cs1) → va_S A s.heap H locs → lv_has ls 6 [(0, .ref (b + u0)), (1, .int u1), (2, .int u2), (4, .int u4), (5, .int u5)] → W p l e (headSpec (wsOf yX1_search cX1_search 6 none) ({ frames := 1, cells := 0, slots := 0, locals := 60 * (1) } : Room)).room s m ([.ref (b + x0), .int x1, .int x2] : List Value).toArray below meth c H locs 0 0 (MQ below (va_Qv (fun (_ : Unit) => True) (fun _ t_ => va_P (dC, dI) vwCl (cW cB cI cJ cZ cS cO b cs9) t_.heap ∧ va_D A (cW cB cI cJ cZ cS cO b cs9)) A) ([.ref (b + x0), .int x1, .int x2] : List Value).toArray s 0 0 A) (F0 m 81 ls []) := by
        intro cs1 u0 u1 u2 u4 u5 h H locs ls hP hD hS hl
        unfold c_X1_search_b81 at h
        refine lv_iconst (v := 1) hx hb dX1_search_81 (by decide) ?_
        refine lv_goto (tgt := 86) hx hb dX1_search_82 (by decide) ?_
        exact B_86 cs1 u0 u1 u2 u4 u5 1 h _ _ _ hP hD hS (lv_sub hl [0, 1, 2, 3, 4] rfl)
      intro cs1 u0 u1 u2 u3 u4 u5 h H locs ls hP hD hS hl
      rw [c_X1_search_L56] at h
      refine lv_iload hx hb dX1_search_56 (lv_at hl 5 rfl) ?_
      refine lv_aload_n hx hb dX1_search_58 rfl (lv_at hl 0 rfl) ?_
      replace h := ob h; obtain ⟨v_19, hv_19, h⟩ := h
      refine fg_X1_59 hx hb hts hown hK hP hv_19 dX1_search_59 ?_
      refine lv_iload_n hx hb dX1_search_62 rfl (lv_at hl 1 rfl) ?_
      refine lv_iadd hx hb dX1_search_63 ?_
      refine lv_icmp_gt (tgt := 147) hx hb dX1_search_64 (by decide) (fun c_20 => ?_) (fun c_20 => ?_)
      · skip
        replace h := (if_pos c_20).symm.trans h
        refine lv_aload_n hx hb dX1_search_147 rfl (lv_at hl 0 rfl) ?_
        refine lv_iload hx hb dX1_search_148 (lv_at hl 4 rfl) ?_
        refine lv_if_eq (tgt := 158) hx hb dX1_search_150 (by decide) (fun c_21 => ?_) (fun c_21 => ?_)
        · skip
          replace h := (if_pos c_21).symm.trans h
          refine lv_iconst (v := 1) hx hb dX1_search_158 (by decide) ?_
          refine lv_iload_n hx hb dX1_search_159 rfl (lv_at hl 2 rfl) ?_
          refine lv_isub hx hb dX1_search_160 ?_
          refine lv_i2l hx hb dX1_search_161 rfl ?_
          exact B_162 cs1 u3 u4 ((1 - u2 : Int32).toInt64) u0 h _ _ _ hP hD hS (lv_sub hl [3, 4] rfl)
        · skip
          replace h := (if_neg c_21).symm.trans h
          refine lv_iload_n hx hb dX1_search_153 rfl (lv_at hl 2 rfl) ?_
          refine lv_i2l hx hb dX1_search_154 rfl ?_
          refine lv_goto (tgt := 162) hx hb dX1_search_155 (by decide) ?_
          exact B_162 cs1 u3 u4 ((u2 : Int32).toInt64) u0 h _ _ _ hP hD hS (lv_sub hl [3, 4] rfl)
      · skip
        replace h := (if_neg c_20).symm.trans h
        refine lv_iload_n hx hb dX1_search_67 rfl (lv_at hl 3 rfl) ?_
        refine lv_if_ne (tgt := 81) hx hb dX1_search_68 (by decide) (fun c_22 => ?_) (fun c_22 => ?_)
        · skip
          replace h := (if_neg c_22).symm.trans h
          exact B_81 cs1 u0 u1 u2 u4 u5 h _ _ _ hP hD hS (lv_sub hl [0, 1, 2, 4, 5] rfl)
        · skip
          replace h := (if_pos c_22).symm.trans h
          refine lv_aload_n hx hb dX1_search_71 rfl (lv_at hl 0 rfl) ?_
          replace h := ob h; obtain ⟨v_23, hv_23, h⟩ := h
          refine fg_X1_49 hx hb hts hown hK hP hv_23 dX1_search_72 ?_
          refine lv_iload hx hb dX1_search_75 (lv_at hl 5 rfl) ?_
          replace h := ob h; obtain ⟨v_24, hv_24, h⟩ := h
          refine ald1 hx hb hK hP rfl hv_24 dX1_search_77 ?_
          refine lv_if_eq (tgt := 85) hx hb dX1_search_78 (by decide) (fun c_25 => ?_) (fun c_25 => ?_)
          · skip
            replace h := (if_pos c_25).symm.trans h
            refine lv_iconst (v := 0) hx hb dX1_search_85 (by decide) ?_
            exact B_86 cs1 u0 u1 u2 u4 u5 0 h _ _ _ hP hD hS (lv_sub hl [0, 1, 2, 4, 5] rfl)
          · skip
            replace h := (if_neg c_25).symm.trans h
            exact B_81 cs1 u0 u1 u2 u4 u5 h _ _ _ hP hD hS (lv_sub hl [0, 1, 2, 4, 5] rfl)
  have B_44 : ∀ (cs1 : CS) (u0 : Nat) (u1 : Int32) (u2 : Int32) (y0 : Int32), c_X1_search_b44 F cs1 u0 u1 u2 y0 = some cs9 → ∀ (H : Heap) (locs : List Loc) (ls : Array Slot), va_P (dC, dI) vwCl (cW cB cI cJ cZ cS cO b cs1) H → va_D A (cW cB cI cJ cZ cS cO b cs1) → va_S A s.heap H locs → lv_has ls 6 [(0, .ref (b + u0)), (1, .int u1), (2, .int u2)] → W p l e (headSpec (wsOf yX1_search cX1_search 6 none) ({ frames := 1, cells := 0, slots := 0, locals := 60 * (1) } : Room)).room s m ([.ref (b + x0), .int x1, .int x2] : List Value).toArray below meth c H locs 0 0 (MQ below (va_Qv (fun (_ : Unit) => True) (fun _ t_ => va_P (dC, dI) vwCl (cW cB cI cJ cZ cS cO b cs9) t_.heap ∧ va_D A (cW cB cI cJ cZ cS cO b cs9)) A) ([.ref (b + x0), .int x1, .int x2] : List Value).toArray s 0 0 A) (F0 m 44 ls [.int y0]) := by
    intro cs1 u0 u1 u2 y0 h H locs ls hP hD hS hl
    unfold c_X1_search_b44 at h
    refine lv_istore_n (lv' := [(3, .int y0), (0, .ref (b + u0)), (1, .int u1), (2, .int u2)]) hx hb dX1_search_44 rfl hl (by decide) rfl (fun ls hl => ?_)
    refine lv_iconst (v := 0) hx hb dX1_search_45 (by decide) ?_
    refine lv_istore (lv' := [(4, .int 0), (3, .int y0), (0, .ref (b + u0)), (1, .int u1), (2, .int u2)]) hx hb dX1_search_46 hl (by decide) rfl (fun ls hl => ?_)
    refine lv_aload_n hx hb dX1_search_48 rfl (lv_at hl 2 rfl) ?_
    replace h := ob h; obtain ⟨v_26, hv_26, h⟩ := h
    refine fg_X1_59 hx hb hts hown hK hP hv_26 dX1_search_49 ?_
    refine lv_iconst (v := 1) hx hb dX1_search_52 (by decide) ?_
    refine lv_iadd hx hb dX1_search_53 ?_
    refine lv_istore (lv' := [(5, .int (v_26 + 1)), (4, .int 0), (3, .int y0), (0, .ref (b + u0)), (1, .int u1), (2, .int u2)]) hx hb dX1_search_54 hl (by decide) rfl (fun ls hl => ?_)
    exact L_56 F cs1 u0 u1 u2 y0 0 (v_26 + 1) h _ _ _ hP hD hS (lv_sub hl [3, 4, 5, 2, 1, 0] rfl)
  have h := hf
  unfold c_X1_search at h
  refine lv_iload_n hx hb dX1_search_0 rfl (lv_at hl 1 rfl) ?_
  refine lv_if_lt (tgt := 14) hx hb dX1_search_1 (by decide) (fun c_27 => ?_) (fun c_27 => ?_)
  · skip
    replace h := (if_pos c_27).symm.trans h
    exact B_14 cs h _ _ _ hP hD hS (lv_sub hl [] rfl)
  · skip
    replace h := (if_neg c_27).symm.trans h
    refine lv_aload_n hx hb dX1_search_4 rfl (lv_at hl 0 rfl) ?_
    replace h := ob h; obtain ⟨v_28, hv_28, h⟩ := h
    refine fg_X1_59 hx hb hts hown hK hP hv_28 dX1_search_5 ?_
    refine lv_iload_n hx hb dX1_search_8 rfl (lv_at hl 1 rfl) ?_
    refine lv_iconst (v := 1) hx hb dX1_search_9 (by decide) ?_
    refine lv_iadd hx hb dX1_search_10 ?_
    refine lv_icmp_ge (tgt := 15) hx hb dX1_search_11 (by decide) (fun c_29 => ?_) (fun c_29 => ?_)
    · skip
      replace h := (if_pos c_29).symm.trans h
      refine lv_aload_n hx hb dX1_search_15 rfl (lv_at hl 0 rfl) ?_
      refine lv_dup hx hb dX1_search_16 rfl ?_
      replace h := ob h; obtain ⟨v_30, hv_30, h⟩ := h
      refine fg_X1_59 hx hb hts hown hK hP hv_30 dX1_search_17 ?_
      refine lv_iload_n hx hb dX1_search_20 rfl (lv_at hl 1 rfl) ?_
      refine lv_iconst (v := 1) hx hb dX1_search_21 (by decide) ?_
      refine lv_iadd hx hb dX1_search_22 ?_
      refine lv_isub hx hb dX1_search_23 ?_
      replace h := ob h; obtain ⟨cs_31, hv_31, h⟩ := h
      refine fp_X1_59 hx hb hts hown hK hP hD hS hv_31 dX1_search_24 (fun H locs hP hD hS => ?_)
      refine lv_aload_n hx hb dX1_search_27 rfl (lv_at hl 0 rfl) ?_
      replace h := ob h; obtain ⟨v_32, hv_32, h⟩ := h
      refine fg_X1_49 hx hb hts hown hK hP hv_32 dX1_search_28 ?_
      refine lv_aload_n hx hb dX1_search_31 rfl (lv_at hl 0 rfl) ?_
      replace h := ob h; obtain ⟨v_33, hv_33, h⟩ := h
      refine fg_X1_59 hx hb hts hown hK hP hv_33 dX1_search_32 ?_
      replace h := ob h; obtain ⟨v_34, hv_34, h⟩ := h
      refine ald1 hx hb hK hP rfl hv_34 dX1_search_35 ?_
      refine lv_if_eq (tgt := 43) hx hb dX1_search_36 (by decide) (fun c_35 => ?_) (fun c_35 => ?_)
      · skip
        replace h := (if_pos c_35).symm.trans h
        refine lv_iconst (v := 0) hx hb dX1_search_43 (by decide) ?_
        exact B_44 cs_31 x0 x1 x2 0 h _ _ _ hP hD hS (lv_sub hl [0, 1, 2] rfl)
      · skip
        replace h := (if_neg c_35).symm.trans h
        refine lv_iconst (v := 1) hx hb dX1_search_39 (by decide) ?_
        refine lv_goto (tgt := 44) hx hb dX1_search_40 (by decide) ?_
        exact B_44 cs_31 x0 x1 x2 1 h _ _ _ hP hD hS (lv_sub hl [0, 1, 2] rfl)
    · skip
      replace h := (if_neg c_29).symm.trans h
      exact B_14 cs h _ _ _ hP hD hS (lv_sub hl [] rfl)
theorem dX1_hasResult_0 : decode cX1_hasResult 0 = .ok (.iload_n 0, 1) := by decide +kernel
theorem dX1_hasResult_1 : decode cX1_hasResult 1 = .ok (.bipush 48, 2) := by decide +kernel
theorem dX1_hasResult_3 : decode cX1_hasResult 3 = .ok (.if_icmp .eq 9, 3) := by decide +kernel
theorem dX1_hasResult_6 : decode cX1_hasResult 6 = .ok (.iload_n 0, 1) := by decide +kernel
theorem dX1_hasResult_7 : decode cX1_hasResult 7 = .ok (.bipush 49, 2) := by decide +kernel
theorem dX1_hasResult_9 : decode cX1_hasResult 9 = .ok (.if_icmp .ne 15, 3) := by decide +kernel
theorem dX1_hasResult_12 : decode cX1_hasResult 12 = .ok (.lload_n 1, 1) := by decide +kernel
theorem dX1_hasResult_13 : decode cX1_hasResult 13 = .ok (.lconst 0, 1) := by decide +kernel
theorem dX1_hasResult_14 : decode cX1_hasResult 14 = .ok (.lcmp, 1) := by decide +kernel
theorem dX1_hasResult_15 : decode cX1_hasResult 15 = .ok (.ifCond .eq 7, 3) := by decide +kernel
theorem dX1_hasResult_18 : decode cX1_hasResult 18 = .ok (.iconst 1, 1) := by decide +kernel
theorem dX1_hasResult_19 : decode cX1_hasResult 19 = .ok (.goto 4, 3) := by decide +kernel
theorem dX1_hasResult_22 : decode cX1_hasResult 22 = .ok (.iconst 0, 1) := by decide +kernel
theorem dX1_hasResult_23 : decode cX1_hasResult 23 = .ok (.ireturn, 1) := by decide +kernel
theorem dX1_hasResult_24 : decode cX1_hasResult 24 = .ok (.iload_n 0, 1) := by decide +kernel
theorem dX1_hasResult_25 : decode cX1_hasResult 25 = .ok (.bipush 36, 2) := by decide +kernel
theorem dX1_hasResult_27 : decode cX1_hasResult 27 = .ok (.if_icmp .ne 9, 3) := by decide +kernel
theorem dX1_hasResult_30 : decode cX1_hasResult 30 = .ok (.lload_n 1, 1) := by decide +kernel
theorem dX1_hasResult_31 : decode cX1_hasResult 31 = .ok (.lconst 0, 1) := by decide +kernel
theorem dX1_hasResult_32 : decode cX1_hasResult 32 = .ok (.lcmp, 1) := by decide +kernel
theorem dX1_hasResult_33 : decode cX1_hasResult 33 = .ok (.ifCond .le 7, 3) := by decide +kernel
theorem dX1_hasResult_36 : decode cX1_hasResult 36 = .ok (.iconst 1, 1) := by decide +kernel
theorem dX1_hasResult_37 : decode cX1_hasResult 37 = .ok (.goto 4, 3) := by decide +kernel
theorem dX1_hasResult_40 : decode cX1_hasResult 40 = .ok (.iconst 0, 1) := by decide +kernel
theorem dX1_hasResult_41 : decode cX1_hasResult 41 = .ok (.ireturn, 1) := by decide +kernel
def c_X1_hasResult_b23 (F : Nat) (cs : CS) (y0 : Int32) : Option Int32 := Option.bind (ckZ y0) fun _ => some y0
def c_X1_hasResult_b12 (F : Nat) (cs : CS) (u1 : Int64) : Option Int32 := if u1 = 0 then (c_X1_hasResult_b23 F cs 0) else (c_X1_hasResult_b23 F cs 1)
def c_X1_hasResult_b41 (F : Nat) (cs : CS) (y0 : Int32) : Option Int32 := Option.bind (ckZ y0) fun _ => some y0
def c_X1_hasResult_b36 (F : Nat) (cs : CS) : Option Int32 := c_X1_hasResult_b41 F cs 1
def c_X1_hasResult (F : Nat) (cs : CS) (x0 : Int32) (x1 : Int64) : Option Int32 := if x0 = 48 then (c_X1_hasResult_b12 F cs x1) else (if x0 = 49 then (c_X1_hasResult_b12 F cs x1) else (if x0 = 36 then (if x1 ≤ 0 then (c_X1_hasResult_b41 F cs 0) else (c_X1_hasResult_b36 F cs )) else (c_X1_hasResult_b36 F cs )))
theorem cw_X1_X1_hasResult {R : Room} {s : State} {args : Array Value} {y0 : MethodName} {c0 : ByteArray} {n0 : Nat} {r0 : Option FieldType} (hts : ∀ w ∈ wsOf y0 c0 n0 r0, w.before args s = true) {fr : Nat} (h1 : fr + 1 ≤ R.frames) (h2 : 8 + (3 + 11) + 60 * fr ≤ R.locals) : CallB R s args RX1 93 yX1_hasResult cX1_hasResult 3 (some .boolean) (wsOf yX1_hasResult cX1_hasResult 3 (some .boolean)) ({ frames := fr, cells := 0, slots := 0, locals := 60 * fr } : Room) 0 0 2 ∧ (Cond.static yX1_hasResult).before args s = true := ⟨callB_of 2 hts (gd_all (in_I kc_X1_hasResult)) rfl rfl rfl (hts _ (List.mem_cons_of_mem _ kw_189)) (hts _ (List.mem_cons_of_mem _ kw_1446)) (by decide +kernel) ⟨h1, h2⟩, hts _ (List.mem_cons_of_mem _ kw_1447)⟩
set_option maxHeartbeats 4000000 in
set_option maxRecDepth 100000 in
theorem sc_X1_hasResult (l : Launch) (dC : Nat → ClassId) (dI : Nat → Nat → Nat) (cB cI cJ cZ cS cO : ClassId) (b : Nat) (K V : Nat → Nat) (fz : Value) (F : Nat) (cs : CS) (x0 : Int32) (x1 : Int64) (r9 : Int32) (hf : c_X1_hasResult F cs x0 x1 = some r9) : ocI l dC dI cB cI cJ cZ cS cO b K V fz yX1_hasResult (wsOf yX1_hasResult cX1_hasResult 3 (some .boolean)) (0) [.int x0, .long x1] cs cs r9 := by
  intro sz
  refine Met.ofW (cc := cX1_hasResult) (maxL := 3) (ret := (some .boolean)) (by decide) rfl ?_
  intro p e s m args below meth c s₁ B hml hv
  obtain ⟨rfl, hsz, hP, hK, hD0, hZ⟩ := hv
  have hx := B.exec
  have hb := B.bytes
  have hr := B.returns
  have hts := atoms_spec (ws := (wsOf yX1_hasResult cX1_hasResult 3 (some .boolean))) B.pre
  have hown : s.vm.findClass RX1 = some m.cls := findClass_of_methodNamed B.named
  have hlocks := B.notSynchronized
  subst hsz
  have hD := hD0.self (sz := s.heap.size)
  generalize hAe : va_A (cW cB cI cJ cZ cS cO b cs) s.heap.size = A at hD hZ ⊢
  have hA : ∀ q : Nat, s.heap.size ≤ q → A q := fun q h => by rw [← hAe]; exact Or.inr h
  have hS : va_S A s.heap s.heap [] := va_S.rf
  have hl := lv_entry ([.int x0, .long x1]) (n := 3) (Nat.le_of_ble_eq_true rfl)
  rw [lg_entry_eq]
  generalize (lg_sl ([.int x0, .long x1]) ++ List.replicate (3 - (lg_sl ([.int x0, .long x1])).length) Slot.unset).toArray = ls at hl ⊢
  have hl : lv_has ls 3 [(0, .int x0), (1, .long x1)] := hl
  have B_23 : ∀ (y0 : Int32), c_X1_hasResult_b23 F cs y0 = some r9 → ∀ (H : Heap) (locs : List Loc) (ls : Array Slot), va_P (dC, dI) vwCl (cW cB cI cJ cZ cS cO b cs) H → va_D A (cW cB cI cJ cZ cS cO b cs) → va_S A s.heap H locs → lv_has ls 3 [] → W p l e (headSpec (wsOf yX1_hasResult cX1_hasResult 3 (some .boolean)) ({ frames := 0, cells := 0, slots := 0, locals := 60 * (0) } : Room)).room s m ([.int x0, .long x1] : List Value).toArray below meth c H locs 0 0 (MQ below (va_Qi (fun (x : Int32) (_ : Unit) => x = r9) (fun _ t_ => va_P (dC, dI) vwCl (cW cB cI cJ cZ cS cO b cs) t_.heap ∧ va_D A (cW cB cI cJ cZ cS cO b cs)) A) ([.int x0, .long x1] : List Value).toArray s 0 0 A) (F0 m 23 ls [.int y0]) := by
    intro y0 h H locs ls hP hD hS hl
    unfold c_X1_hasResult_b23 at h
    replace h := ob h; obtain ⟨w_1, hw_1, h⟩ := h
    have e2 := Option.some.inj h
    exact W.zret (v := y0) hx hb hr (nzN (ckZ_some hw_1)) (fun t_ ht hW => ⟨⟨y0, (), rfl, e2, by rw [ht]; exact hP, hD⟩, hS.F ht⟩) hS.2.2 dX1_hasResult_23
  have B_12 : ∀ (u1 : Int64), c_X1_hasResult_b12 F cs u1 = some r9 → ∀ (H : Heap) (locs : List Loc) (ls : Array Slot), va_P (dC, dI) vwCl (cW cB cI cJ cZ cS cO b cs) H → va_D A (cW cB cI cJ cZ cS cO b cs) → va_S A s.heap H locs → lv_has ls 3 [(1, .long u1)] → W p l e (headSpec (wsOf yX1_hasResult cX1_hasResult 3 (some .boolean)) ({ frames := 0, cells := 0, slots := 0, locals := 60 * (0) } : Room)).room s m ([.int x0, .long x1] : List Value).toArray below meth c H locs 0 0 (MQ below (va_Qi (fun (x : Int32) (_ : Unit) => x = r9) (fun _ t_ => va_P (dC, dI) vwCl (cW cB cI cJ cZ cS cO b cs) t_.heap ∧ va_D A (cW cB cI cJ cZ cS cO b cs)) A) ([.int x0, .long x1] : List Value).toArray s 0 0 A) (F0 m 12 ls []) := by
    intro u1 h H locs ls hP hD hS hl
    unfold c_X1_hasResult_b12 at h
    refine lv_lload_n hx hb dX1_hasResult_12 rfl (lv_at hl 0 rfl) ?_
    refine lv_lconst (v := 0) hx hb dX1_hasResult_13 (by decide) ?_
    refine W.lcmp hx hb dX1_hasResult_14 ?_
    refine lv_if_eq (tgt := 22) hx hb dX1_hasResult_15 (by decide) (fun c_2 => ?_) (fun c_2 => ?_)
    · skip
      have c_2 : u1 = 0 := (lg_cmp_eq _ _).mp c_2
      replace h := (if_pos c_2).symm.trans h
      refine lv_iconst (v := 0) hx hb dX1_hasResult_22 (by decide) ?_
      exact B_23 0 h _ _ _ hP hD hS (lv_sub hl [] rfl)
    · skip
      have c_2 : ¬ (u1 = 0) := fun h9 => c_2 ((lg_cmp_eq _ _).mpr h9)
      replace h := (if_neg c_2).symm.trans h
      refine lv_iconst (v := 1) hx hb dX1_hasResult_18 (by decide) ?_
      refine lv_goto (tgt := 23) hx hb dX1_hasResult_19 (by decide) ?_
      exact B_23 1 h _ _ _ hP hD hS (lv_sub hl [] rfl)
  have B_41 : ∀ (y0 : Int32), c_X1_hasResult_b41 F cs y0 = some r9 → ∀ (H : Heap) (locs : List Loc) (ls : Array Slot), va_P (dC, dI) vwCl (cW cB cI cJ cZ cS cO b cs) H → va_D A (cW cB cI cJ cZ cS cO b cs) → va_S A s.heap H locs → lv_has ls 3 [] → W p l e (headSpec (wsOf yX1_hasResult cX1_hasResult 3 (some .boolean)) ({ frames := 0, cells := 0, slots := 0, locals := 60 * (0) } : Room)).room s m ([.int x0, .long x1] : List Value).toArray below meth c H locs 0 0 (MQ below (va_Qi (fun (x : Int32) (_ : Unit) => x = r9) (fun _ t_ => va_P (dC, dI) vwCl (cW cB cI cJ cZ cS cO b cs) t_.heap ∧ va_D A (cW cB cI cJ cZ cS cO b cs)) A) ([.int x0, .long x1] : List Value).toArray s 0 0 A) (F0 m 41 ls [.int y0]) := by
    intro y0 h H locs ls hP hD hS hl
    unfold c_X1_hasResult_b41 at h
    replace h := ob h; obtain ⟨w_3, hw_3, h⟩ := h
    have e2 := Option.some.inj h
    exact W.zret (v := y0) hx hb hr (nzN (ckZ_some hw_3)) (fun t_ ht hW => ⟨⟨y0, (), rfl, e2, by rw [ht]; exact hP, hD⟩, hS.F ht⟩) hS.2.2 dX1_hasResult_41
  have B_36 : c_X1_hasResult_b36 F cs = some r9 → ∀ (H : Heap) (locs : List Loc) (ls : Array Slot), va_P (dC, dI) vwCl (cW cB cI cJ cZ cS cO b cs) H → va_D A (cW cB cI cJ cZ cS cO b cs) → va_S A s.heap H locs → lv_has ls 3 [] → W p l e (headSpec (wsOf yX1_hasResult cX1_hasResult 3 (some .boolean)) ({ frames := 0, cells := 0, slots := 0, locals := 60 * (0) } : Room)).room s m ([.int x0, .long x1] : List Value).toArray below meth c H locs 0 0 (MQ below (va_Qi (fun (x : Int32) (_ : Unit) => x = r9) (fun _ t_ => va_P (dC, dI) vwCl (cW cB cI cJ cZ cS cO b cs) t_.heap ∧ va_D A (cW cB cI cJ cZ cS cO b cs)) A) ([.int x0, .long x1] : List Value).toArray s 0 0 A) (F0 m 36 ls []) := by
    intro  h H locs ls hP hD hS hl
    unfold c_X1_hasResult_b36 at h
    refine lv_iconst (v := 1) hx hb dX1_hasResult_36 (by decide) ?_
    refine lv_goto (tgt := 41) hx hb dX1_hasResult_37 (by decide) ?_
    exact B_41 1 h _ _ _ hP hD hS (lv_sub hl [] rfl)
  have h := hf
  unfold c_X1_hasResult at h
  refine lv_iload_n hx hb dX1_hasResult_0 rfl (lv_at hl 0 rfl) ?_
  refine lv_bipush (v := 48) hx hb dX1_hasResult_1 (by decide) ?_
  refine lv_icmp_eq (tgt := 12) hx hb dX1_hasResult_3 (by decide) (fun c_4 => ?_) (fun c_4 => ?_)
  · skip
    replace h := (if_pos c_4).symm.trans h
    exact B_12 x1 h _ _ _ hP hD hS (lv_sub hl [1] rfl)
  · skip
    replace h := (if_neg c_4).symm.trans h
    refine lv_iload_n hx hb dX1_hasResult_6 rfl (lv_at hl 0 rfl) ?_
    refine lv_bipush (v := 49) hx hb dX1_hasResult_7 (by decide) ?_
    refine lv_icmp_ne (tgt := 24) hx hb dX1_hasResult_9 (by decide) (fun c_5 => ?_) (fun c_5 => ?_)
    · skip
      replace h := (if_neg c_5).symm.trans h
      refine lv_iload_n hx hb dX1_hasResult_24 rfl (lv_at hl 0 rfl) ?_
      refine lv_bipush (v := 36) hx hb dX1_hasResult_25 (by decide) ?_
      refine lv_icmp_ne (tgt := 36) hx hb dX1_hasResult_27 (by decide) (fun c_6 => ?_) (fun c_6 => ?_)
      · skip
        replace h := (if_neg c_6).symm.trans h
        exact B_36  h _ _ _ hP hD hS (lv_sub hl [] rfl)
      · skip
        replace h := (if_pos c_6).symm.trans h
        refine lv_lload_n hx hb dX1_hasResult_30 rfl (lv_at hl 1 rfl) ?_
        refine lv_lconst (v := 0) hx hb dX1_hasResult_31 (by decide) ?_
        refine W.lcmp hx hb dX1_hasResult_32 ?_
        refine lv_if_le (tgt := 40) hx hb dX1_hasResult_33 (by decide) (fun c_7 => ?_) (fun c_7 => ?_)
        · skip
          have c_7 : x1 ≤ 0 := (lg_cmp_le _ _).mp c_7
          replace h := (if_pos c_7).symm.trans h
          refine lv_iconst (v := 0) hx hb dX1_hasResult_40 (by decide) ?_
          exact B_41 0 h _ _ _ hP hD hS (lv_sub hl [] rfl)
        · skip
          have c_7 : ¬ (x1 ≤ 0) := fun h9 => c_7 ((lg_cmp_le _ _).mpr h9)
          replace h := (if_neg c_7).symm.trans h
          exact B_36  h _ _ _ hP hD hS (lv_sub hl [] rfl)
    · skip
      replace h := (if_pos c_5).symm.trans h
      exact B_12 x1 h _ _ _ hP hD hS (lv_sub hl [1] rfl)
theorem dX1_reckon_0 : decode cX1_reckon 0 = .ok (.iload_n 0, 1) := by decide +kernel
theorem dX1_reckon_1 : decode cX1_reckon 1 = .ok (.tableswitch 227 36 54 #[131, 227, 227, 227, 227, 227, 227, 227, 227, 91, 95, 99, 103, 117, 167, 191, 215, 179, 203], 91) := by decide +kernel
theorem dX1_reckon_92 : decode cX1_reckon 92 = .ok (.lload_n 1, 1) := by decide +kernel
theorem dX1_reckon_93 : decode cX1_reckon 93 = .ok (.lload_n 3, 1) := by decide +kernel
theorem dX1_reckon_94 : decode cX1_reckon 94 = .ok (.ladd, 1) := by decide +kernel
theorem dX1_reckon_95 : decode cX1_reckon 95 = .ok (.lreturn, 1) := by decide +kernel
theorem dX1_reckon_96 : decode cX1_reckon 96 = .ok (.lload_n 1, 1) := by decide +kernel
theorem dX1_reckon_97 : decode cX1_reckon 97 = .ok (.lload_n 3, 1) := by decide +kernel
theorem dX1_reckon_98 : decode cX1_reckon 98 = .ok (.lsub, 1) := by decide +kernel
theorem dX1_reckon_99 : decode cX1_reckon 99 = .ok (.lreturn, 1) := by decide +kernel
theorem dX1_reckon_100 : decode cX1_reckon 100 = .ok (.lload_n 1, 1) := by decide +kernel
theorem dX1_reckon_101 : decode cX1_reckon 101 = .ok (.lload_n 3, 1) := by decide +kernel
theorem dX1_reckon_102 : decode cX1_reckon 102 = .ok (.lmul, 1) := by decide +kernel
theorem dX1_reckon_103 : decode cX1_reckon 103 = .ok (.lreturn, 1) := by decide +kernel
theorem dX1_reckon_104 : decode cX1_reckon 104 = .ok (.lload_n 3, 1) := by decide +kernel
theorem dX1_reckon_105 : decode cX1_reckon 105 = .ok (.lconst 0, 1) := by decide +kernel
theorem dX1_reckon_106 : decode cX1_reckon 106 = .ok (.lcmp, 1) := by decide +kernel
theorem dX1_reckon_107 : decode cX1_reckon 107 = .ok (.ifCond .ne 7, 3) := by decide +kernel
theorem dX1_reckon_110 : decode cX1_reckon 110 = .ok (.lconst 0, 1) := by decide +kernel
theorem dX1_reckon_111 : decode cX1_reckon 111 = .ok (.goto 6, 3) := by decide +kernel
theorem dX1_reckon_114 : decode cX1_reckon 114 = .ok (.lload_n 1, 1) := by decide +kernel
theorem dX1_reckon_115 : decode cX1_reckon 115 = .ok (.lload_n 3, 1) := by decide +kernel
theorem dX1_reckon_116 : decode cX1_reckon 116 = .ok (.ldiv, 1) := by decide +kernel
theorem dX1_reckon_117 : decode cX1_reckon 117 = .ok (.lreturn, 1) := by decide +kernel
theorem dX1_reckon_118 : decode cX1_reckon 118 = .ok (.lload_n 3, 1) := by decide +kernel
theorem dX1_reckon_119 : decode cX1_reckon 119 = .ok (.lconst 0, 1) := by decide +kernel
theorem dX1_reckon_120 : decode cX1_reckon 120 = .ok (.lcmp, 1) := by decide +kernel
theorem dX1_reckon_121 : decode cX1_reckon 121 = .ok (.ifCond .ne 7, 3) := by decide +kernel
theorem dX1_reckon_124 : decode cX1_reckon 124 = .ok (.lconst 0, 1) := by decide +kernel
theorem dX1_reckon_125 : decode cX1_reckon 125 = .ok (.goto 6, 3) := by decide +kernel
theorem dX1_reckon_128 : decode cX1_reckon 128 = .ok (.lload_n 1, 1) := by decide +kernel
theorem dX1_reckon_129 : decode cX1_reckon 129 = .ok (.lload_n 3, 1) := by decide +kernel
theorem dX1_reckon_130 : decode cX1_reckon 130 = .ok (.lrem, 1) := by decide +kernel
theorem dX1_reckon_131 : decode cX1_reckon 131 = .ok (.lreturn, 1) := by decide +kernel
theorem dX1_reckon_132 : decode cX1_reckon 132 = .ok (.lload_n 3, 1) := by decide +kernel
theorem dX1_reckon_133 : decode cX1_reckon 133 = .ok (.lconst 0, 1) := by decide +kernel
theorem dX1_reckon_134 : decode cX1_reckon 134 = .ok (.lcmp, 1) := by decide +kernel
theorem dX1_reckon_135 : decode cX1_reckon 135 = .ok (.ifCond .ne 7, 3) := by decide +kernel
theorem dX1_reckon_138 : decode cX1_reckon 138 = .ok (.lconst 0, 1) := by decide +kernel
theorem dX1_reckon_139 : decode cX1_reckon 139 = .ok (.goto 6, 3) := by decide +kernel
theorem dX1_reckon_142 : decode cX1_reckon 142 = .ok (.lload_n 1, 1) := by decide +kernel
theorem dX1_reckon_143 : decode cX1_reckon 143 = .ok (.lload_n 3, 1) := by decide +kernel
theorem dX1_reckon_144 : decode cX1_reckon 144 = .ok (.lrem, 1) := by decide +kernel
theorem dX1_reckon_145 : decode cX1_reckon 145 = .ok (.lstore 5, 2) := by decide +kernel
theorem dX1_reckon_147 : decode cX1_reckon 147 = .ok (.lload 5, 2) := by decide +kernel
theorem dX1_reckon_149 : decode cX1_reckon 149 = .ok (.lconst 0, 1) := by decide +kernel
theorem dX1_reckon_150 : decode cX1_reckon 150 = .ok (.lcmp, 1) := by decide +kernel
theorem dX1_reckon_151 : decode cX1_reckon 151 = .ok (.ifCond .ge 12, 3) := by decide +kernel
theorem dX1_reckon_154 : decode cX1_reckon 154 = .ok (.lload_n 1, 1) := by decide +kernel
theorem dX1_reckon_155 : decode cX1_reckon 155 = .ok (.lload 5, 2) := by decide +kernel
theorem dX1_reckon_157 : decode cX1_reckon 157 = .ok (.lsub, 1) := by decide +kernel
theorem dX1_reckon_158 : decode cX1_reckon 158 = .ok (.lload_n 3, 1) := by decide +kernel
theorem dX1_reckon_159 : decode cX1_reckon 159 = .ok (.lsub, 1) := by decide +kernel
theorem dX1_reckon_160 : decode cX1_reckon 160 = .ok (.goto 7, 3) := by decide +kernel
theorem dX1_reckon_163 : decode cX1_reckon 163 = .ok (.lload_n 1, 1) := by decide +kernel
theorem dX1_reckon_164 : decode cX1_reckon 164 = .ok (.lload 5, 2) := by decide +kernel
theorem dX1_reckon_166 : decode cX1_reckon 166 = .ok (.lsub, 1) := by decide +kernel
theorem dX1_reckon_167 : decode cX1_reckon 167 = .ok (.lreturn, 1) := by decide +kernel
theorem dX1_reckon_168 : decode cX1_reckon 168 = .ok (.lload_n 1, 1) := by decide +kernel
theorem dX1_reckon_169 : decode cX1_reckon 169 = .ok (.lload_n 3, 1) := by decide +kernel
theorem dX1_reckon_170 : decode cX1_reckon 170 = .ok (.lcmp, 1) := by decide +kernel
theorem dX1_reckon_171 : decode cX1_reckon 171 = .ok (.ifCond .ne 7, 3) := by decide +kernel
theorem dX1_reckon_174 : decode cX1_reckon 174 = .ok (.lconst 1, 1) := by decide +kernel
theorem dX1_reckon_175 : decode cX1_reckon 175 = .ok (.goto 4, 3) := by decide +kernel
theorem dX1_reckon_178 : decode cX1_reckon 178 = .ok (.lconst 0, 1) := by decide +kernel
theorem dX1_reckon_179 : decode cX1_reckon 179 = .ok (.lreturn, 1) := by decide +kernel
theorem dX1_reckon_180 : decode cX1_reckon 180 = .ok (.lload_n 1, 1) := by decide +kernel
theorem dX1_reckon_181 : decode cX1_reckon 181 = .ok (.lload_n 3, 1) := by decide +kernel
theorem dX1_reckon_182 : decode cX1_reckon 182 = .ok (.lcmp, 1) := by decide +kernel
theorem dX1_reckon_183 : decode cX1_reckon 183 = .ok (.ifCond .eq 7, 3) := by decide +kernel
theorem dX1_reckon_186 : decode cX1_reckon 186 = .ok (.lconst 1, 1) := by decide +kernel
theorem dX1_reckon_187 : decode cX1_reckon 187 = .ok (.goto 4, 3) := by decide +kernel
theorem dX1_reckon_190 : decode cX1_reckon 190 = .ok (.lconst 0, 1) := by decide +kernel
theorem dX1_reckon_191 : decode cX1_reckon 191 = .ok (.lreturn, 1) := by decide +kernel
theorem dX1_reckon_192 : decode cX1_reckon 192 = .ok (.lload_n 1, 1) := by decide +kernel
theorem dX1_reckon_193 : decode cX1_reckon 193 = .ok (.lload_n 3, 1) := by decide +kernel
theorem dX1_reckon_194 : decode cX1_reckon 194 = .ok (.lcmp, 1) := by decide +kernel
theorem dX1_reckon_195 : decode cX1_reckon 195 = .ok (.ifCond .ge 7, 3) := by decide +kernel
theorem dX1_reckon_198 : decode cX1_reckon 198 = .ok (.lconst 1, 1) := by decide +kernel
theorem dX1_reckon_199 : decode cX1_reckon 199 = .ok (.goto 4, 3) := by decide +kernel
theorem dX1_reckon_202 : decode cX1_reckon 202 = .ok (.lconst 0, 1) := by decide +kernel
theorem dX1_reckon_203 : decode cX1_reckon 203 = .ok (.lreturn, 1) := by decide +kernel
theorem dX1_reckon_204 : decode cX1_reckon 204 = .ok (.lload_n 1, 1) := by decide +kernel
theorem dX1_reckon_205 : decode cX1_reckon 205 = .ok (.lload_n 3, 1) := by decide +kernel
theorem dX1_reckon_206 : decode cX1_reckon 206 = .ok (.lcmp, 1) := by decide +kernel
theorem dX1_reckon_207 : decode cX1_reckon 207 = .ok (.ifCond .gt 7, 3) := by decide +kernel
theorem dX1_reckon_210 : decode cX1_reckon 210 = .ok (.lconst 1, 1) := by decide +kernel
theorem dX1_reckon_211 : decode cX1_reckon 211 = .ok (.goto 4, 3) := by decide +kernel
theorem dX1_reckon_214 : decode cX1_reckon 214 = .ok (.lconst 0, 1) := by decide +kernel
theorem dX1_reckon_215 : decode cX1_reckon 215 = .ok (.lreturn, 1) := by decide +kernel
theorem dX1_reckon_216 : decode cX1_reckon 216 = .ok (.lload_n 1, 1) := by decide +kernel
theorem dX1_reckon_217 : decode cX1_reckon 217 = .ok (.lload_n 3, 1) := by decide +kernel
theorem dX1_reckon_218 : decode cX1_reckon 218 = .ok (.lcmp, 1) := by decide +kernel
theorem dX1_reckon_219 : decode cX1_reckon 219 = .ok (.ifCond .le 7, 3) := by decide +kernel
theorem dX1_reckon_222 : decode cX1_reckon 222 = .ok (.lconst 1, 1) := by decide +kernel
theorem dX1_reckon_223 : decode cX1_reckon 223 = .ok (.goto 4, 3) := by decide +kernel
theorem dX1_reckon_226 : decode cX1_reckon 226 = .ok (.lconst 0, 1) := by decide +kernel
theorem dX1_reckon_227 : decode cX1_reckon 227 = .ok (.lreturn, 1) := by decide +kernel
theorem dX1_reckon_228 : decode cX1_reckon 228 = .ok (.lload_n 1, 1) := by decide +kernel
theorem dX1_reckon_229 : decode cX1_reckon 229 = .ok (.lload_n 3, 1) := by decide +kernel
theorem dX1_reckon_230 : decode cX1_reckon 230 = .ok (.lcmp, 1) := by decide +kernel
theorem dX1_reckon_231 : decode cX1_reckon 231 = .ok (.ifCond .lt 7, 3) := by decide +kernel
theorem dX1_reckon_234 : decode cX1_reckon 234 = .ok (.lconst 1, 1) := by decide +kernel
theorem dX1_reckon_235 : decode cX1_reckon 235 = .ok (.goto 4, 3) := by decide +kernel
theorem dX1_reckon_238 : decode cX1_reckon 238 = .ok (.lconst 0, 1) := by decide +kernel
theorem dX1_reckon_239 : decode cX1_reckon 239 = .ok (.lreturn, 1) := by decide +kernel
def c_X1_reckon_b117 (F : Nat) (cs : CS) (y0 : Int64) : Option Int64 := some y0
def c_X1_reckon_b131 (F : Nat) (cs : CS) (y0 : Int64) : Option Int64 := some y0
def c_X1_reckon_b167 (F : Nat) (cs : CS) (y0 : Int64) : Option Int64 := some y0
def c_X1_reckon_b145 (F : Nat) (cs : CS) (u1 : Int64) (u3 : Int64) (y0 : Int64) : Option Int64 := if 0 ≤ y0 then (c_X1_reckon_b167 F cs (u1 - y0)) else (c_X1_reckon_b167 F cs ((u1 - y0) - u3))
def c_X1_reckon_b179 (F : Nat) (cs : CS) (y0 : Int64) : Option Int64 := some y0
def c_X1_reckon_b191 (F : Nat) (cs : CS) (y0 : Int64) : Option Int64 := some y0
def c_X1_reckon_b203 (F : Nat) (cs : CS) (y0 : Int64) : Option Int64 := some y0
def c_X1_reckon_b215 (F : Nat) (cs : CS) (y0 : Int64) : Option Int64 := some y0
def c_X1_reckon_b227 (F : Nat) (cs : CS) (y0 : Int64) : Option Int64 := some y0
def c_X1_reckon_b239 (F : Nat) (cs : CS) (y0 : Int64) : Option Int64 := some y0
def c_X1_reckon_b228 (F : Nat) (cs : CS) (u1 : Int64) (u3 : Int64) : Option Int64 := if u1 < u3 then (c_X1_reckon_b239 F cs 0) else (c_X1_reckon_b239 F cs 1)
def c_X1_reckon (F : Nat) (cs : CS) (x0 : Int32) (x1 : Int64) (x3 : Int64) : Option Int64 := if x0 = 36 then (if x3 = 0 then (c_X1_reckon_b145 F cs x1 x3 0) else (Option.bind (ckD x3) fun _ => c_X1_reckon_b145 F cs x1 x3 (x1 - x1 / x3 * x3))) else (if x0 = 45 then (some (x1 + x3)) else (if x0 = 46 then (some (x1 - x3)) else (if x0 = 47 then (some (x1 * x3)) else (if x0 = 48 then (if x3 = 0 then (c_X1_reckon_b117 F cs 0) else (Option.bind (ckD x3) fun _ => c_X1_reckon_b117 F cs (x1 / x3))) else (if x0 = 49 then (if x3 = 0 then (c_X1_reckon_b131 F cs 0) else (Option.bind (ckD x3) fun _ => c_X1_reckon_b131 F cs (x1 - x1 / x3 * x3))) else (if x0 = 50 then (if x1 = x3 then (c_X1_reckon_b179 F cs 1) else (c_X1_reckon_b179 F cs 0)) else (if x0 = 51 then (if x3 ≤ x1 then (c_X1_reckon_b203 F cs 0) else (c_X1_reckon_b203 F cs 1)) else (if x0 = 52 then (if x1 ≤ x3 then (c_X1_reckon_b227 F cs 0) else (c_X1_reckon_b227 F cs 1)) else (if x0 = 53 then (if x1 = x3 then (c_X1_reckon_b191 F cs 0) else (c_X1_reckon_b191 F cs 1)) else (if x0 = 54 then (if x3 < x1 then (c_X1_reckon_b215 F cs 0) else (c_X1_reckon_b215 F cs 1)) else (c_X1_reckon_b228 F cs x1 x3)))))))))))
theorem cw_X1_X1_reckon {R : Room} {s : State} {args : Array Value} {y0 : MethodName} {c0 : ByteArray} {n0 : Nat} {r0 : Option FieldType} (hts : ∀ w ∈ wsOf y0 c0 n0 r0, w.before args s = true) {fr : Nat} (h1 : fr + 1 ≤ R.frames) (h2 : 8 + (7 + 11) + 60 * fr ≤ R.locals) : CallB R s args RX1 97 yX1_reckon cX1_reckon 7 (some .long) (wsOf yX1_reckon cX1_reckon 7 (some .long)) ({ frames := fr, cells := 0, slots := 0, locals := 60 * fr } : Room) 0 0 3 ∧ (Cond.static yX1_reckon).before args s = true := ⟨callB_of 3 hts (gd_all (in_I kc_X1_reckon)) rfl rfl rfl (hts _ (List.mem_cons_of_mem _ kw_189)) (hts _ (List.mem_cons_of_mem _ kw_1449)) (by decide +kernel) ⟨h1, h2⟩, hts _ (List.mem_cons_of_mem _ kw_1450)⟩
set_option maxHeartbeats 4000000 in
set_option maxRecDepth 100000 in
theorem sc_X1_reckon (l : Launch) (dC : Nat → ClassId) (dI : Nat → Nat → Nat) (cB cI cJ cZ cS cO : ClassId) (b : Nat) (K V : Nat → Nat) (fz : Value) (F : Nat) (cs : CS) (x0 : Int32) (x1 : Int64) (x3 : Int64) (r9 : Int64) (hf : c_X1_reckon F cs x0 x1 x3 = some r9) : ocL l dC dI cB cI cJ cZ cS cO b K V fz yX1_reckon (wsOf yX1_reckon cX1_reckon 7 (some .long)) (0) [.int x0, .long x1, .long x3] cs cs r9 := by
  intro sz
  refine Met.ofW (cc := cX1_reckon) (maxL := 7) (ret := (some .long)) (by decide) rfl ?_
  intro p e s m args below meth c s₁ B hml hv
  obtain ⟨rfl, hsz, hP, hK, hD0, hZ⟩ := hv
  have hx := B.exec
  have hb := B.bytes
  have hr := B.returns
  have hts := atoms_spec (ws := (wsOf yX1_reckon cX1_reckon 7 (some .long))) B.pre
  have hown : s.vm.findClass RX1 = some m.cls := findClass_of_methodNamed B.named
  have hlocks := B.notSynchronized
  subst hsz
  have hD := hD0.self (sz := s.heap.size)
  generalize hAe : va_A (cW cB cI cJ cZ cS cO b cs) s.heap.size = A at hD hZ ⊢
  have hA : ∀ q : Nat, s.heap.size ≤ q → A q := fun q h => by rw [← hAe]; exact Or.inr h
  have hS : va_S A s.heap s.heap [] := va_S.rf
  have hl := lv_entry ([.int x0, .long x1, .long x3]) (n := 7) (Nat.le_of_ble_eq_true rfl)
  rw [lg_entry_eq]
  generalize (lg_sl ([.int x0, .long x1, .long x3]) ++ List.replicate (7 - (lg_sl ([.int x0, .long x1, .long x3])).length) Slot.unset).toArray = ls at hl ⊢
  have hl : lv_has ls 7 [(0, .int x0), (1, .long x1), (3, .long x3)] := hl
  have B_117 : ∀ (y0 : Int64), c_X1_reckon_b117 F cs y0 = some r9 → ∀ (H : Heap) (locs : List Loc) (ls : Array Slot), va_P (dC, dI) vwCl (cW cB cI cJ cZ cS cO b cs) H → va_D A (cW cB cI cJ cZ cS cO b cs) → va_S A s.heap H locs → lv_has ls 7 [] → W p l e (headSpec (wsOf yX1_reckon cX1_reckon 7 (some .long)) ({ frames := 0, cells := 0, slots := 0, locals := 60 * (0) } : Room)).room s m ([.int x0, .long x1, .long x3] : List Value).toArray below meth c H locs 0 0 (MQ below (va_Ql (fun (x : Int64) (_ : Unit) => x = r9) (fun _ t_ => va_P (dC, dI) vwCl (cW cB cI cJ cZ cS cO b cs) t_.heap ∧ va_D A (cW cB cI cJ cZ cS cO b cs)) A) ([.int x0, .long x1, .long x3] : List Value).toArray s 0 0 A) (F0 m 117 ls [.long y0]) := by
    intro y0 h H locs ls hP hD hS hl
    unfold c_X1_reckon_b117 at h
    have e2 := Option.some.inj h
    exact W.lret (v := y0) hx hb hr (fun t_ ht hW => ⟨⟨y0, (), rfl, e2, by rw [ht]; exact hP, hD⟩, hS.F ht⟩) hS.2.2 dX1_reckon_117
  have B_131 : ∀ (y0 : Int64), c_X1_reckon_b131 F cs y0 = some r9 → ∀ (H : Heap) (locs : List Loc) (ls : Array Slot), va_P (dC, dI) vwCl (cW cB cI cJ cZ cS cO b cs) H → va_D A (cW cB cI cJ cZ cS cO b cs) → va_S A s.heap H locs → lv_has ls 7 [] → W p l e (headSpec (wsOf yX1_reckon cX1_reckon 7 (some .long)) ({ frames := 0, cells := 0, slots := 0, locals := 60 * (0) } : Room)).room s m ([.int x0, .long x1, .long x3] : List Value).toArray below meth c H locs 0 0 (MQ below (va_Ql (fun (x : Int64) (_ : Unit) => x = r9) (fun _ t_ => va_P (dC, dI) vwCl (cW cB cI cJ cZ cS cO b cs) t_.heap ∧ va_D A (cW cB cI cJ cZ cS cO b cs)) A) ([.int x0, .long x1, .long x3] : List Value).toArray s 0 0 A) (F0 m 131 ls [.long y0]) := by
    intro y0 h H locs ls hP hD hS hl
    unfold c_X1_reckon_b131 at h
    have e2 := Option.some.inj h
    exact W.lret (v := y0) hx hb hr (fun t_ ht hW => ⟨⟨y0, (), rfl, e2, by rw [ht]; exact hP, hD⟩, hS.F ht⟩) hS.2.2 dX1_reckon_131
  have B_167 : ∀ (y0 : Int64), c_X1_reckon_b167 F cs y0 = some r9 → ∀ (H : Heap) (locs : List Loc) (ls : Array Slot), va_P (dC, dI) vwCl (cW cB cI cJ cZ cS cO b cs) H → va_D A (cW cB cI cJ cZ cS cO b cs) → va_S A s.heap H locs → lv_has ls 7 [] → W p l e (headSpec (wsOf yX1_reckon cX1_reckon 7 (some .long)) ({ frames := 0, cells := 0, slots := 0, locals := 60 * (0) } : Room)).room s m ([.int x0, .long x1, .long x3] : List Value).toArray below meth c H locs 0 0 (MQ below (va_Ql (fun (x : Int64) (_ : Unit) => x = r9) (fun _ t_ => va_P (dC, dI) vwCl (cW cB cI cJ cZ cS cO b cs) t_.heap ∧ va_D A (cW cB cI cJ cZ cS cO b cs)) A) ([.int x0, .long x1, .long x3] : List Value).toArray s 0 0 A) (F0 m 167 ls [.long y0]) := by
    intro y0 h H locs ls hP hD hS hl
    unfold c_X1_reckon_b167 at h
    have e2 := Option.some.inj h
    exact W.lret (v := y0) hx hb hr (fun t_ ht hW => ⟨⟨y0, (), rfl, e2, by rw [ht]; exact hP, hD⟩, hS.F ht⟩) hS.2.2 dX1_reckon_167
  have B_145 : ∀ (u1 : Int64) (u3 : Int64) (y0 : Int64), c_X1_reckon_b145 F cs u1 u3 y0 = some r9 → ∀ (H : Heap) (locs : List Loc) (ls : Array Slot), va_P (dC, dI) vwCl (cW cB cI cJ cZ cS cO b cs) H → va_D A (cW cB cI cJ cZ cS cO b cs) → va_S A s.heap H locs → lv_has ls 7 [(1, .long u1), (3, .long u3)] → W p l e (headSpec (wsOf yX1_reckon cX1_reckon 7 (some .long)) ({ frames := 0, cells := 0, slots := 0, locals := 60 * (0) } : Room)).room s m ([.int x0, .long x1, .long x3] : List Value).toArray below meth c H locs 0 0 (MQ below (va_Ql (fun (x : Int64) (_ : Unit) => x = r9) (fun _ t_ => va_P (dC, dI) vwCl (cW cB cI cJ cZ cS cO b cs) t_.heap ∧ va_D A (cW cB cI cJ cZ cS cO b cs)) A) ([.int x0, .long x1, .long x3] : List Value).toArray s 0 0 A) (F0 m 145 ls [.long y0]) := by
    intro u1 u3 y0 h H locs ls hP hD hS hl
    unfold c_X1_reckon_b145 at h
    refine lv_lstore (lv' := [(5, .long y0), (1, .long u1), (3, .long u3)]) hx hb dX1_reckon_145 hl (by decide) rfl (fun ls hl => ?_)
    refine lv_lload hx hb dX1_reckon_147 (lv_at hl 0 rfl) ?_
    refine lv_lconst (v := 0) hx hb dX1_reckon_149 (by decide) ?_
    refine W.lcmp hx hb dX1_reckon_150 ?_
    refine lv_if_ge (tgt := 163) hx hb dX1_reckon_151 (by decide) (fun c_1 => ?_) (fun c_1 => ?_)
    · skip
      have c_1 : 0 ≤ y0 := (lg_cmp_ge _ _).mp c_1
      replace h := (if_pos c_1).symm.trans h
      refine lv_lload_n hx hb dX1_reckon_163 rfl (lv_at hl 1 rfl) ?_
      refine lv_lload hx hb dX1_reckon_164 (lv_at hl 0 rfl) ?_
      refine lv_lsub hx hb dX1_reckon_166 ?_
      exact B_167 (u1 - y0) h _ _ _ hP hD hS (lv_sub hl [] rfl)
    · skip
      have c_1 : ¬ (0 ≤ y0) := fun h9 => c_1 ((lg_cmp_ge _ _).mpr h9)
      replace h := (if_neg c_1).symm.trans h
      refine lv_lload_n hx hb dX1_reckon_154 rfl (lv_at hl 1 rfl) ?_
      refine lv_lload hx hb dX1_reckon_155 (lv_at hl 0 rfl) ?_
      refine lv_lsub hx hb dX1_reckon_157 ?_
      refine lv_lload_n hx hb dX1_reckon_158 rfl (lv_at hl 2 rfl) ?_
      refine lv_lsub hx hb dX1_reckon_159 ?_
      refine lv_goto (tgt := 167) hx hb dX1_reckon_160 (by decide) ?_
      exact B_167 ((u1 - y0) - u3) h _ _ _ hP hD hS (lv_sub hl [] rfl)
  have B_179 : ∀ (y0 : Int64), c_X1_reckon_b179 F cs y0 = some r9 → ∀ (H : Heap) (locs : List Loc) (ls : Array Slot), va_P (dC, dI) vwCl (cW cB cI cJ cZ cS cO b cs) H → va_D A (cW cB cI cJ cZ cS cO b cs) → va_S A s.heap H locs → lv_has ls 7 [] → W p l e (headSpec (wsOf yX1_reckon cX1_reckon 7 (some .long)) ({ frames := 0, cells := 0, slots := 0, locals := 60 * (0) } : Room)).room s m ([.int x0, .long x1, .long x3] : List Value).toArray below meth c H locs 0 0 (MQ below (va_Ql (fun (x : Int64) (_ : Unit) => x = r9) (fun _ t_ => va_P (dC, dI) vwCl (cW cB cI cJ cZ cS cO b cs) t_.heap ∧ va_D A (cW cB cI cJ cZ cS cO b cs)) A) ([.int x0, .long x1, .long x3] : List Value).toArray s 0 0 A) (F0 m 179 ls [.long y0]) := by
    intro y0 h H locs ls hP hD hS hl
    unfold c_X1_reckon_b179 at h
    have e2 := Option.some.inj h
    exact W.lret (v := y0) hx hb hr (fun t_ ht hW => ⟨⟨y0, (), rfl, e2, by rw [ht]; exact hP, hD⟩, hS.F ht⟩) hS.2.2 dX1_reckon_179
  have B_191 : ∀ (y0 : Int64), c_X1_reckon_b191 F cs y0 = some r9 → ∀ (H : Heap) (locs : List Loc) (ls : Array Slot), va_P (dC, dI) vwCl (cW cB cI cJ cZ cS cO b cs) H → va_D A (cW cB cI cJ cZ cS cO b cs) → va_S A s.heap H locs → lv_has ls 7 [] → W p l e (headSpec (wsOf yX1_reckon cX1_reckon 7 (some .long)) ({ frames := 0, cells := 0, slots := 0, locals := 60 * (0) } : Room)).room s m ([.int x0, .long x1, .long x3] : List Value).toArray below meth c H locs 0 0 (MQ below (va_Ql (fun (x : Int64) (_ : Unit) => x = r9) (fun _ t_ => va_P (dC, dI) vwCl (cW cB cI cJ cZ cS cO b cs) t_.heap ∧ va_D A (cW cB cI cJ cZ cS cO b cs)) A) ([.int x0, .long x1, .long x3] : List Value).toArray s 0 0 A) (F0 m 191 ls [.long y0]) := by
    intro y0 h H locs ls hP hD hS hl
    unfold c_X1_reckon_b191 at h
    have e2 := Option.some.inj h
    exact W.lret (v := y0) hx hb hr (fun t_ ht hW => ⟨⟨y0, (), rfl, e2, by rw [ht]; exact hP, hD⟩, hS.F ht⟩) hS.2.2 dX1_reckon_191
  have B_203 : ∀ (y0 : Int64), c_X1_reckon_b203 F cs y0 = some r9 → ∀ (H : Heap) (locs : List Loc) (ls : Array Slot), va_P (dC, dI) vwCl (cW cB cI cJ cZ cS cO b cs) H → va_D A (cW cB cI cJ cZ cS cO b cs) → va_S A s.heap H locs → lv_has ls 7 [] → W p l e (headSpec (wsOf yX1_reckon cX1_reckon 7 (some .long)) ({ frames := 0, cells := 0, slots := 0, locals := 60 * (0) } : Room)).room s m ([.int x0, .long x1, .long x3] : List Value).toArray below meth c H locs 0 0 (MQ below (va_Ql (fun (x : Int64) (_ : Unit) => x = r9) (fun _ t_ => va_P (dC, dI) vwCl (cW cB cI cJ cZ cS cO b cs) t_.heap ∧ va_D A (cW cB cI cJ cZ cS cO b cs)) A) ([.int x0, .long x1, .long x3] : List Value).toArray s 0 0 A) (F0 m 203 ls [.long y0]) := by
    intro y0 h H locs ls hP hD hS hl
    unfold c_X1_reckon_b203 at h
    have e2 := Option.some.inj h
    exact W.lret (v := y0) hx hb hr (fun t_ ht hW => ⟨⟨y0, (), rfl, e2, by rw [ht]; exact hP, hD⟩, hS.F ht⟩) hS.2.2 dX1_reckon_203
  have B_215 : ∀ (y0 : Int64), c_X1_reckon_b215 F cs y0 = some r9 → ∀ (H : Heap) (locs : List Loc) (ls : Array Slot), va_P (dC, dI) vwCl (cW cB cI cJ cZ cS cO b cs) H → va_D A (cW cB cI cJ cZ cS cO b cs) → va_S A s.heap H locs → lv_has ls 7 [] → W p l e (headSpec (wsOf yX1_reckon cX1_reckon 7 (some .long)) ({ frames := 0, cells := 0, slots := 0, locals := 60 * (0) } : Room)).room s m ([.int x0, .long x1, .long x3] : List Value).toArray below meth c H locs 0 0 (MQ below (va_Ql (fun (x : Int64) (_ : Unit) => x = r9) (fun _ t_ => va_P (dC, dI) vwCl (cW cB cI cJ cZ cS cO b cs) t_.heap ∧ va_D A (cW cB cI cJ cZ cS cO b cs)) A) ([.int x0, .long x1, .long x3] : List Value).toArray s 0 0 A) (F0 m 215 ls [.long y0]) := by
    intro y0 h H locs ls hP hD hS hl
    unfold c_X1_reckon_b215 at h
    have e2 := Option.some.inj h
    exact W.lret (v := y0) hx hb hr (fun t_ ht hW => ⟨⟨y0, (), rfl, e2, by rw [ht]; exact hP, hD⟩, hS.F ht⟩) hS.2.2 dX1_reckon_215
  have B_227 : ∀ (y0 : Int64), c_X1_reckon_b227 F cs y0 = some r9 → ∀ (H : Heap) (locs : List Loc) (ls : Array Slot), va_P (dC, dI) vwCl (cW cB cI cJ cZ cS cO b cs) H → va_D A (cW cB cI cJ cZ cS cO b cs) → va_S A s.heap H locs → lv_has ls 7 [] → W p l e (headSpec (wsOf yX1_reckon cX1_reckon 7 (some .long)) ({ frames := 0, cells := 0, slots := 0, locals := 60 * (0) } : Room)).room s m ([.int x0, .long x1, .long x3] : List Value).toArray below meth c H locs 0 0 (MQ below (va_Ql (fun (x : Int64) (_ : Unit) => x = r9) (fun _ t_ => va_P (dC, dI) vwCl (cW cB cI cJ cZ cS cO b cs) t_.heap ∧ va_D A (cW cB cI cJ cZ cS cO b cs)) A) ([.int x0, .long x1, .long x3] : List Value).toArray s 0 0 A) (F0 m 227 ls [.long y0]) := by
    intro y0 h H locs ls hP hD hS hl
    unfold c_X1_reckon_b227 at h
    have e2 := Option.some.inj h
    exact W.lret (v := y0) hx hb hr (fun t_ ht hW => ⟨⟨y0, (), rfl, e2, by rw [ht]; exact hP, hD⟩, hS.F ht⟩) hS.2.2 dX1_reckon_227
  have B_239 : ∀ (y0 : Int64), c_X1_reckon_b239 F cs y0 = some r9 → ∀ (H : Heap) (locs : List Loc) (ls : Array Slot), va_P (dC, dI) vwCl (cW cB cI cJ cZ cS cO b cs) H → va_D A (cW cB cI cJ cZ cS cO b cs) → va_S A s.heap H locs → lv_has ls 7 [] → W p l e (headSpec (wsOf yX1_reckon cX1_reckon 7 (some .long)) ({ frames := 0, cells := 0, slots := 0, locals := 60 * (0) } : Room)).room s m ([.int x0, .long x1, .long x3] : List Value).toArray below meth c H locs 0 0 (MQ below (va_Ql (fun (x : Int64) (_ : Unit) => x = r9) (fun _ t_ => va_P (dC, dI) vwCl (cW cB cI cJ cZ cS cO b cs) t_.heap ∧ va_D A (cW cB cI cJ cZ cS cO b cs)) A) ([.int x0, .long x1, .long x3] : List Value).toArray s 0 0 A) (F0 m 239 ls [.long y0]) := by
    intro y0 h H locs ls hP hD hS hl
    unfold c_X1_reckon_b239 at h
    have e2 := Option.some.inj h
    exact W.lret (v := y0) hx hb hr (fun t_ ht hW => ⟨⟨y0, (), rfl, e2, by rw [ht]; exact hP, hD⟩, hS.F ht⟩) hS.2.2 dX1_reckon_239
  have B_228 : ∀ (u1 : Int64) (u3 : Int64), c_X1_reckon_b228 F cs u1 u3 = some r9 → ∀ (H : Heap) (locs : List Loc) (ls : Array Slot), va_P (dC, dI) vwCl (cW cB cI cJ cZ cS cO b cs) H → va_D A (cW cB cI cJ cZ cS cO b cs) → va_S A s.heap H locs → lv_has ls 7 [(1, .long u1), (3, .long u3)] → W p l e (headSpec (wsOf yX1_reckon cX1_reckon 7 (some .long)) ({ frames := 0, cells := 0, slots := 0, locals := 60 * (0) } : Room)).room s m ([.int x0, .long x1, .long x3] : List Value).toArray below meth c H locs 0 0 (MQ below (va_Ql (fun (x : Int64) (_ : Unit) => x = r9) (fun _ t_ => va_P (dC, dI) vwCl (cW cB cI cJ cZ cS cO b cs) t_.heap ∧ va_D A (cW cB cI cJ cZ cS cO b cs)) A) ([.int x0, .long x1, .long x3] : List Value).toArray s 0 0 A) (F0 m 228 ls []) := by
    intro u1 u3 h H locs ls hP hD hS hl
    unfold c_X1_reckon_b228 at h
    refine lv_lload_n hx hb dX1_reckon_228 rfl (lv_at hl 0 rfl) ?_
    refine lv_lload_n hx hb dX1_reckon_229 rfl (lv_at hl 1 rfl) ?_
    refine W.lcmp hx hb dX1_reckon_230 ?_
    refine lv_if_lt (tgt := 238) hx hb dX1_reckon_231 (by decide) (fun c_2 => ?_) (fun c_2 => ?_)
    · skip
      have c_2 : u1 < u3 := (lg_cmp_lt _ _).mp c_2
      replace h := (if_pos c_2).symm.trans h
      refine lv_lconst (v := 0) hx hb dX1_reckon_238 (by decide) ?_
      exact B_239 0 h _ _ _ hP hD hS (lv_sub hl [] rfl)
    · skip
      have c_2 : ¬ (u1 < u3) := fun h9 => c_2 ((lg_cmp_lt _ _).mpr h9)
      replace h := (if_neg c_2).symm.trans h
      refine lv_lconst (v := 1) hx hb dX1_reckon_234 (by decide) ?_
      refine lv_goto (tgt := 239) hx hb dX1_reckon_235 (by decide) ?_
      exact B_239 1 h _ _ _ hP hD hS (lv_sub hl [] rfl)
  have h := hf
  unfold c_X1_reckon at h
  refine lv_iload_n hx hb dX1_reckon_0 rfl (lv_at hl 0 rfl) ?_
  by_cases c_3 : x0 = 36
  · skip
    replace h := (if_pos c_3).symm.trans h
    refine lv_tableIn (tgt := 132) (off := 131) hx hb dX1_reckon_1 (by rw [c_3]; decide) (by rw [c_3]; decide) (by rw [c_3]; decide) (by decide) ?_
    refine lv_lload_n hx hb dX1_reckon_132 rfl (lv_at hl 2 rfl) ?_
    refine lv_lconst (v := 0) hx hb dX1_reckon_133 (by decide) ?_
    refine W.lcmp hx hb dX1_reckon_134 ?_
    refine lv_if_ne (tgt := 142) hx hb dX1_reckon_135 (by decide) (fun c_4 => ?_) (fun c_4 => ?_)
    · skip
      have c_4 : ¬ (x3 = 0) := fun h9 => c_4 ((lg_cmp_eq _ _).mpr h9)
      replace h := (if_neg c_4).symm.trans h
      refine lv_lload_n hx hb dX1_reckon_142 rfl (lv_at hl 1 rfl) ?_
      refine lv_lload_n hx hb dX1_reckon_143 rfl (lv_at hl 2 rfl) ?_
      replace h := ob h; obtain ⟨w_5, hw_5, h⟩ := h
      refine lv_lrem hx hb dX1_reckon_144 (ckD_some hw_5) ?_
      exact B_145 x1 x3 (x1 - x1 / x3 * x3) h _ _ _ hP hD hS (lv_sub hl [1, 2] rfl)
    · skip
      have c_4 : x3 = 0 := (lg_cmp_eq _ _).mp c_4
      replace h := (if_pos c_4).symm.trans h
      refine lv_lconst (v := 0) hx hb dX1_reckon_138 (by decide) ?_
      refine lv_goto (tgt := 145) hx hb dX1_reckon_139 (by decide) ?_
      exact B_145 x1 x3 0 h _ _ _ hP hD hS (lv_sub hl [1, 2] rfl)
  replace h := (if_neg c_3).symm.trans h
  by_cases c_6 : x0 = 45
  · skip
    replace h := (if_pos c_6).symm.trans h
    refine lv_tableIn (tgt := 92) (off := 91) hx hb dX1_reckon_1 (by rw [c_6]; decide) (by rw [c_6]; decide) (by rw [c_6]; decide) (by decide) ?_
    refine lv_lload_n hx hb dX1_reckon_92 rfl (lv_at hl 1 rfl) ?_
    refine lv_lload_n hx hb dX1_reckon_93 rfl (lv_at hl 2 rfl) ?_
    refine lv_ladd hx hb dX1_reckon_94 ?_
    have e2 := Option.some.inj h
    exact W.lret (v := x1 + x3) hx hb hr (fun t_ ht hW => ⟨⟨x1 + x3, (), rfl, e2, by rw [ht]; exact hP, hD⟩, hS.F ht⟩) hS.2.2 dX1_reckon_95
  replace h := (if_neg c_6).symm.trans h
  by_cases c_7 : x0 = 46
  · skip
    replace h := (if_pos c_7).symm.trans h
    refine lv_tableIn (tgt := 96) (off := 95) hx hb dX1_reckon_1 (by rw [c_7]; decide) (by rw [c_7]; decide) (by rw [c_7]; decide) (by decide) ?_
    refine lv_lload_n hx hb dX1_reckon_96 rfl (lv_at hl 1 rfl) ?_
    refine lv_lload_n hx hb dX1_reckon_97 rfl (lv_at hl 2 rfl) ?_
    refine lv_lsub hx hb dX1_reckon_98 ?_
    have e2 := Option.some.inj h
    exact W.lret (v := x1 - x3) hx hb hr (fun t_ ht hW => ⟨⟨x1 - x3, (), rfl, e2, by rw [ht]; exact hP, hD⟩, hS.F ht⟩) hS.2.2 dX1_reckon_99
  replace h := (if_neg c_7).symm.trans h
  by_cases c_8 : x0 = 47
  · skip
    replace h := (if_pos c_8).symm.trans h
    refine lv_tableIn (tgt := 100) (off := 99) hx hb dX1_reckon_1 (by rw [c_8]; decide) (by rw [c_8]; decide) (by rw [c_8]; decide) (by decide) ?_
    refine lv_lload_n hx hb dX1_reckon_100 rfl (lv_at hl 1 rfl) ?_
    refine lv_lload_n hx hb dX1_reckon_101 rfl (lv_at hl 2 rfl) ?_
    refine lv_lmul hx hb dX1_reckon_102 ?_
    have e2 := Option.some.inj h
    exact W.lret (v := x1 * x3) hx hb hr (fun t_ ht hW => ⟨⟨x1 * x3, (), rfl, e2, by rw [ht]; exact hP, hD⟩, hS.F ht⟩) hS.2.2 dX1_reckon_103
  replace h := (if_neg c_8).symm.trans h
  by_cases c_9 : x0 = 48
  · skip
    replace h := (if_pos c_9).symm.trans h
    refine lv_tableIn (tgt := 104) (off := 103) hx hb dX1_reckon_1 (by rw [c_9]; decide) (by rw [c_9]; decide) (by rw [c_9]; decide) (by decide) ?_
    refine lv_lload_n hx hb dX1_reckon_104 rfl (lv_at hl 2 rfl) ?_
    refine lv_lconst (v := 0) hx hb dX1_reckon_105 (by decide) ?_
    refine W.lcmp hx hb dX1_reckon_106 ?_
    refine lv_if_ne (tgt := 114) hx hb dX1_reckon_107 (by decide) (fun c_10 => ?_) (fun c_10 => ?_)
    · skip
      have c_10 : ¬ (x3 = 0) := fun h9 => c_10 ((lg_cmp_eq _ _).mpr h9)
      replace h := (if_neg c_10).symm.trans h
      refine lv_lload_n hx hb dX1_reckon_114 rfl (lv_at hl 1 rfl) ?_
      refine lv_lload_n hx hb dX1_reckon_115 rfl (lv_at hl 2 rfl) ?_
      replace h := ob h; obtain ⟨w_11, hw_11, h⟩ := h
      refine lv_ldiv hx hb dX1_reckon_116 (ckD_some hw_11) ?_
      exact B_117 (x1 / x3) h _ _ _ hP hD hS (lv_sub hl [] rfl)
    · skip
      have c_10 : x3 = 0 := (lg_cmp_eq _ _).mp c_10
      replace h := (if_pos c_10).symm.trans h
      refine lv_lconst (v := 0) hx hb dX1_reckon_110 (by decide) ?_
      refine lv_goto (tgt := 117) hx hb dX1_reckon_111 (by decide) ?_
      exact B_117 0 h _ _ _ hP hD hS (lv_sub hl [] rfl)
  replace h := (if_neg c_9).symm.trans h
  by_cases c_12 : x0 = 49
  · skip
    replace h := (if_pos c_12).symm.trans h
    refine lv_tableIn (tgt := 118) (off := 117) hx hb dX1_reckon_1 (by rw [c_12]; decide) (by rw [c_12]; decide) (by rw [c_12]; decide) (by decide) ?_
    refine lv_lload_n hx hb dX1_reckon_118 rfl (lv_at hl 2 rfl) ?_
    refine lv_lconst (v := 0) hx hb dX1_reckon_119 (by decide) ?_
    refine W.lcmp hx hb dX1_reckon_120 ?_
    refine lv_if_ne (tgt := 128) hx hb dX1_reckon_121 (by decide) (fun c_13 => ?_) (fun c_13 => ?_)
    · skip
      have c_13 : ¬ (x3 = 0) := fun h9 => c_13 ((lg_cmp_eq _ _).mpr h9)
      replace h := (if_neg c_13).symm.trans h
      refine lv_lload_n hx hb dX1_reckon_128 rfl (lv_at hl 1 rfl) ?_
      refine lv_lload_n hx hb dX1_reckon_129 rfl (lv_at hl 2 rfl) ?_
      replace h := ob h; obtain ⟨w_14, hw_14, h⟩ := h
      refine lv_lrem hx hb dX1_reckon_130 (ckD_some hw_14) ?_
      exact B_131 (x1 - x1 / x3 * x3) h _ _ _ hP hD hS (lv_sub hl [] rfl)
    · skip
      have c_13 : x3 = 0 := (lg_cmp_eq _ _).mp c_13
      replace h := (if_pos c_13).symm.trans h
      refine lv_lconst (v := 0) hx hb dX1_reckon_124 (by decide) ?_
      refine lv_goto (tgt := 131) hx hb dX1_reckon_125 (by decide) ?_
      exact B_131 0 h _ _ _ hP hD hS (lv_sub hl [] rfl)
  replace h := (if_neg c_12).symm.trans h
  by_cases c_15 : x0 = 50
  · skip
    replace h := (if_pos c_15).symm.trans h
    refine lv_tableIn (tgt := 168) (off := 167) hx hb dX1_reckon_1 (by rw [c_15]; decide) (by rw [c_15]; decide) (by rw [c_15]; decide) (by decide) ?_
    refine lv_lload_n hx hb dX1_reckon_168 rfl (lv_at hl 1 rfl) ?_
    refine lv_lload_n hx hb dX1_reckon_169 rfl (lv_at hl 2 rfl) ?_
    refine W.lcmp hx hb dX1_reckon_170 ?_
    refine lv_if_ne (tgt := 178) hx hb dX1_reckon_171 (by decide) (fun c_16 => ?_) (fun c_16 => ?_)
    · skip
      have c_16 : ¬ (x1 = x3) := fun h9 => c_16 ((lg_cmp_eq _ _).mpr h9)
      replace h := (if_neg c_16).symm.trans h
      refine lv_lconst (v := 0) hx hb dX1_reckon_178 (by decide) ?_
      exact B_179 0 h _ _ _ hP hD hS (lv_sub hl [] rfl)
    · skip
      have c_16 : x1 = x3 := (lg_cmp_eq _ _).mp c_16
      replace h := (if_pos c_16).symm.trans h
      refine lv_lconst (v := 1) hx hb dX1_reckon_174 (by decide) ?_
      refine lv_goto (tgt := 179) hx hb dX1_reckon_175 (by decide) ?_
      exact B_179 1 h _ _ _ hP hD hS (lv_sub hl [] rfl)
  replace h := (if_neg c_15).symm.trans h
  by_cases c_17 : x0 = 51
  · skip
    replace h := (if_pos c_17).symm.trans h
    refine lv_tableIn (tgt := 192) (off := 191) hx hb dX1_reckon_1 (by rw [c_17]; decide) (by rw [c_17]; decide) (by rw [c_17]; decide) (by decide) ?_
    refine lv_lload_n hx hb dX1_reckon_192 rfl (lv_at hl 1 rfl) ?_
    refine lv_lload_n hx hb dX1_reckon_193 rfl (lv_at hl 2 rfl) ?_
    refine W.lcmp hx hb dX1_reckon_194 ?_
    refine lv_if_ge (tgt := 202) hx hb dX1_reckon_195 (by decide) (fun c_18 => ?_) (fun c_18 => ?_)
    · skip
      have c_18 : x3 ≤ x1 := (lg_cmp_ge _ _).mp c_18
      replace h := (if_pos c_18).symm.trans h
      refine lv_lconst (v := 0) hx hb dX1_reckon_202 (by decide) ?_
      exact B_203 0 h _ _ _ hP hD hS (lv_sub hl [] rfl)
    · skip
      have c_18 : ¬ (x3 ≤ x1) := fun h9 => c_18 ((lg_cmp_ge _ _).mpr h9)
      replace h := (if_neg c_18).symm.trans h
      refine lv_lconst (v := 1) hx hb dX1_reckon_198 (by decide) ?_
      refine lv_goto (tgt := 203) hx hb dX1_reckon_199 (by decide) ?_
      exact B_203 1 h _ _ _ hP hD hS (lv_sub hl [] rfl)
  replace h := (if_neg c_17).symm.trans h
  by_cases c_19 : x0 = 52
  · skip
    replace h := (if_pos c_19).symm.trans h
    refine lv_tableIn (tgt := 216) (off := 215) hx hb dX1_reckon_1 (by rw [c_19]; decide) (by rw [c_19]; decide) (by rw [c_19]; decide) (by decide) ?_
    refine lv_lload_n hx hb dX1_reckon_216 rfl (lv_at hl 1 rfl) ?_
    refine lv_lload_n hx hb dX1_reckon_217 rfl (lv_at hl 2 rfl) ?_
    refine W.lcmp hx hb dX1_reckon_218 ?_
    refine lv_if_le (tgt := 226) hx hb dX1_reckon_219 (by decide) (fun c_20 => ?_) (fun c_20 => ?_)
    · skip
      have c_20 : x1 ≤ x3 := (lg_cmp_le _ _).mp c_20
      replace h := (if_pos c_20).symm.trans h
      refine lv_lconst (v := 0) hx hb dX1_reckon_226 (by decide) ?_
      exact B_227 0 h _ _ _ hP hD hS (lv_sub hl [] rfl)
    · skip
      have c_20 : ¬ (x1 ≤ x3) := fun h9 => c_20 ((lg_cmp_le _ _).mpr h9)
      replace h := (if_neg c_20).symm.trans h
      refine lv_lconst (v := 1) hx hb dX1_reckon_222 (by decide) ?_
      refine lv_goto (tgt := 227) hx hb dX1_reckon_223 (by decide) ?_
      exact B_227 1 h _ _ _ hP hD hS (lv_sub hl [] rfl)
  replace h := (if_neg c_19).symm.trans h
  by_cases c_21 : x0 = 53
  · skip
    replace h := (if_pos c_21).symm.trans h
    refine lv_tableIn (tgt := 180) (off := 179) hx hb dX1_reckon_1 (by rw [c_21]; decide) (by rw [c_21]; decide) (by rw [c_21]; decide) (by decide) ?_
    refine lv_lload_n hx hb dX1_reckon_180 rfl (lv_at hl 1 rfl) ?_
    refine lv_lload_n hx hb dX1_reckon_181 rfl (lv_at hl 2 rfl) ?_
    refine W.lcmp hx hb dX1_reckon_182 ?_
    refine lv_if_eq (tgt := 190) hx hb dX1_reckon_183 (by decide) (fun c_22 => ?_) (fun c_22 => ?_)
    · skip
      have c_22 : x1 = x3 := (lg_cmp_eq _ _).mp c_22
      replace h := (if_pos c_22).symm.trans h
      refine lv_lconst (v := 0) hx hb dX1_reckon_190 (by decide) ?_
      exact B_191 0 h _ _ _ hP hD hS (lv_sub hl [] rfl)
    · skip
      have c_22 : ¬ (x1 = x3) := fun h9 => c_22 ((lg_cmp_eq _ _).mpr h9)
      replace h := (if_neg c_22).symm.trans h
      refine lv_lconst (v := 1) hx hb dX1_reckon_186 (by decide) ?_
      refine lv_goto (tgt := 191) hx hb dX1_reckon_187 (by decide) ?_
      exact B_191 1 h _ _ _ hP hD hS (lv_sub hl [] rfl)
  replace h := (if_neg c_21).symm.trans h
  by_cases c_23 : x0 = 54
  · skip
    replace h := (if_pos c_23).symm.trans h
    refine lv_tableIn (tgt := 204) (off := 203) hx hb dX1_reckon_1 (by rw [c_23]; decide) (by rw [c_23]; decide) (by rw [c_23]; decide) (by decide) ?_
    refine lv_lload_n hx hb dX1_reckon_204 rfl (lv_at hl 1 rfl) ?_
    refine lv_lload_n hx hb dX1_reckon_205 rfl (lv_at hl 2 rfl) ?_
    refine W.lcmp hx hb dX1_reckon_206 ?_
    refine lv_if_gt (tgt := 214) hx hb dX1_reckon_207 (by decide) (fun c_24 => ?_) (fun c_24 => ?_)
    · skip
      have c_24 : x3 < x1 := (lg_cmp_gt _ _).mp c_24
      replace h := (if_pos c_24).symm.trans h
      refine lv_lconst (v := 0) hx hb dX1_reckon_214 (by decide) ?_
      exact B_215 0 h _ _ _ hP hD hS (lv_sub hl [] rfl)
    · skip
      have c_24 : ¬ (x3 < x1) := fun h9 => c_24 ((lg_cmp_gt _ _).mpr h9)
      replace h := (if_neg c_24).symm.trans h
      refine lv_lconst (v := 1) hx hb dX1_reckon_210 (by decide) ?_
      refine lv_goto (tgt := 215) hx hb dX1_reckon_211 (by decide) ?_
      exact B_215 1 h _ _ _ hP hD hS (lv_sub hl [] rfl)
  replace h := (if_neg c_23).symm.trans h
  have n_3 : ¬ (x0 : Int32).toInt = 36 := lv_neT c_3 (by decide)
  have n_6 : ¬ (x0 : Int32).toInt = 45 := lv_neT c_6 (by decide)
  have n_7 : ¬ (x0 : Int32).toInt = 46 := lv_neT c_7 (by decide)
  have n_8 : ¬ (x0 : Int32).toInt = 47 := lv_neT c_8 (by decide)
  have n_9 : ¬ (x0 : Int32).toInt = 48 := lv_neT c_9 (by decide)
  have n_12 : ¬ (x0 : Int32).toInt = 49 := lv_neT c_12 (by decide)
  have n_15 : ¬ (x0 : Int32).toInt = 50 := lv_neT c_15 (by decide)
  have n_17 : ¬ (x0 : Int32).toInt = 51 := lv_neT c_17 (by decide)
  have n_19 : ¬ (x0 : Int32).toInt = 52 := lv_neT c_19 (by decide)
  have n_21 : ¬ (x0 : Int32).toInt = 53 := lv_neT c_21 (by decide)
  have n_23 : ¬ (x0 : Int32).toInt = 54 := lv_neT c_23 (by decide)
  by_cases hq_1 : (x0 : Int32).toInt < 36 ∨ 54 < (x0 : Int32).toInt
  · skip
    refine lv_tableOut (tgt := 228) hx hb dX1_reckon_1 hq_1 (by decide) ?_
    exact B_228 x1 x3 h _ _ _ hP hD hS (lv_sub hl [1, 2] rfl)
  by_cases hq_1_37 : (x0 : Int32).toInt = 37
  · skip
    refine lv_tableIn (tgt := 228) (off := 227) hx hb dX1_reckon_1 (by omega) (by omega) (by rw [hq_1_37]; decide) (by decide) ?_
    exact B_228 x1 x3 h _ _ _ hP hD hS (lv_sub hl [1, 2] rfl)
  by_cases hq_1_38 : (x0 : Int32).toInt = 38
  · skip
    refine lv_tableIn (tgt := 228) (off := 227) hx hb dX1_reckon_1 (by omega) (by omega) (by rw [hq_1_38]; decide) (by decide) ?_
    exact B_228 x1 x3 h _ _ _ hP hD hS (lv_sub hl [1, 2] rfl)
  by_cases hq_1_39 : (x0 : Int32).toInt = 39
  · skip
    refine lv_tableIn (tgt := 228) (off := 227) hx hb dX1_reckon_1 (by omega) (by omega) (by rw [hq_1_39]; decide) (by decide) ?_
    exact B_228 x1 x3 h _ _ _ hP hD hS (lv_sub hl [1, 2] rfl)
  by_cases hq_1_40 : (x0 : Int32).toInt = 40
  · skip
    refine lv_tableIn (tgt := 228) (off := 227) hx hb dX1_reckon_1 (by omega) (by omega) (by rw [hq_1_40]; decide) (by decide) ?_
    exact B_228 x1 x3 h _ _ _ hP hD hS (lv_sub hl [1, 2] rfl)
  by_cases hq_1_41 : (x0 : Int32).toInt = 41
  · skip
    refine lv_tableIn (tgt := 228) (off := 227) hx hb dX1_reckon_1 (by omega) (by omega) (by rw [hq_1_41]; decide) (by decide) ?_
    exact B_228 x1 x3 h _ _ _ hP hD hS (lv_sub hl [1, 2] rfl)
  by_cases hq_1_42 : (x0 : Int32).toInt = 42
  · skip
    refine lv_tableIn (tgt := 228) (off := 227) hx hb dX1_reckon_1 (by omega) (by omega) (by rw [hq_1_42]; decide) (by decide) ?_
    exact B_228 x1 x3 h _ _ _ hP hD hS (lv_sub hl [1, 2] rfl)
  by_cases hq_1_43 : (x0 : Int32).toInt = 43
  · skip
    refine lv_tableIn (tgt := 228) (off := 227) hx hb dX1_reckon_1 (by omega) (by omega) (by rw [hq_1_43]; decide) (by decide) ?_
    exact B_228 x1 x3 h _ _ _ hP hD hS (lv_sub hl [1, 2] rfl)
  by_cases hq_1_44 : (x0 : Int32).toInt = 44
  · skip
    refine lv_tableIn (tgt := 228) (off := 227) hx hb dX1_reckon_1 (by omega) (by omega) (by rw [hq_1_44]; decide) (by decide) ?_
    exact B_228 x1 x3 h _ _ _ hP hD hS (lv_sub hl [1, 2] rfl)
  exfalso
  omega
theorem dX1_two_0 : decode cX1_two 0 = .ok (.aload_n 0, 1) := by decide +kernel
theorem dX1_two_1 : decode cX1_two 1 = .ok (.getfield 59, 3) := by decide +kernel
theorem dX1_two_4 : decode cX1_two 4 = .ok (.iconst 2, 1) := by decide +kernel
theorem dX1_two_5 : decode cX1_two 5 = .ok (.if_icmp .ge 4, 3) := by decide +kernel
theorem dX1_two_8 : decode cX1_two 8 = .ok (.return_, 1) := by decide +kernel
theorem dX1_two_9 : decode cX1_two 9 = .ok (.aload_n 0, 1) := by decide +kernel
theorem dX1_two_10 : decode cX1_two 10 = .ok (.dup, 1) := by decide +kernel
theorem dX1_two_11 : decode cX1_two 11 = .ok (.getfield 59, 3) := by decide +kernel
theorem dX1_two_14 : decode cX1_two 14 = .ok (.iconst 2, 1) := by decide +kernel
theorem dX1_two_15 : decode cX1_two 15 = .ok (.isub, 1) := by decide +kernel
theorem dX1_two_16 : decode cX1_two 16 = .ok (.putfield 59, 3) := by decide +kernel
theorem dX1_two_19 : decode cX1_two 19 = .ok (.aload_n 0, 1) := by decide +kernel
theorem dX1_two_20 : decode cX1_two 20 = .ok (.getfield 46, 3) := by decide +kernel
theorem dX1_two_23 : decode cX1_two 23 = .ok (.aload_n 0, 1) := by decide +kernel
theorem dX1_two_24 : decode cX1_two 24 = .ok (.getfield 59, 3) := by decide +kernel
theorem dX1_two_27 : decode cX1_two 27 = .ok (.laload, 1) := by decide +kernel
theorem dX1_two_28 : decode cX1_two 28 = .ok (.lstore_n 2, 1) := by decide +kernel
theorem dX1_two_29 : decode cX1_two 29 = .ok (.aload_n 0, 1) := by decide +kernel
theorem dX1_two_30 : decode cX1_two 30 = .ok (.getfield 46, 3) := by decide +kernel
theorem dX1_two_33 : decode cX1_two 33 = .ok (.aload_n 0, 1) := by decide +kernel
theorem dX1_two_34 : decode cX1_two 34 = .ok (.getfield 59, 3) := by decide +kernel
theorem dX1_two_37 : decode cX1_two 37 = .ok (.iconst 1, 1) := by decide +kernel
theorem dX1_two_38 : decode cX1_two 38 = .ok (.iadd, 1) := by decide +kernel
theorem dX1_two_39 : decode cX1_two 39 = .ok (.laload, 1) := by decide +kernel
theorem dX1_two_40 : decode cX1_two 40 = .ok (.lstore 4, 2) := by decide +kernel
theorem dX1_two_42 : decode cX1_two 42 = .ok (.aload_n 0, 1) := by decide +kernel
theorem dX1_two_43 : decode cX1_two 43 = .ok (.getfield 49, 3) := by decide +kernel
theorem dX1_two_46 : decode cX1_two 46 = .ok (.aload_n 0, 1) := by decide +kernel
theorem dX1_two_47 : decode cX1_two 47 = .ok (.getfield 59, 3) := by decide +kernel
theorem dX1_two_50 : decode cX1_two 50 = .ok (.baload, 1) := by decide +kernel
theorem dX1_two_51 : decode cX1_two 51 = .ok (.ifCond .ne 7, 3) := by decide +kernel
theorem dX1_two_54 : decode cX1_two 54 = .ok (.iconst 1, 1) := by decide +kernel
theorem dX1_two_55 : decode cX1_two 55 = .ok (.goto 4, 3) := by decide +kernel
theorem dX1_two_58 : decode cX1_two 58 = .ok (.iconst 0, 1) := by decide +kernel
theorem dX1_two_59 : decode cX1_two 59 = .ok (.istore 6, 2) := by decide +kernel
theorem dX1_two_61 : decode cX1_two 61 = .ok (.aload_n 0, 1) := by decide +kernel
theorem dX1_two_62 : decode cX1_two 62 = .ok (.getfield 49, 3) := by decide +kernel
theorem dX1_two_65 : decode cX1_two 65 = .ok (.aload_n 0, 1) := by decide +kernel
theorem dX1_two_66 : decode cX1_two 66 = .ok (.getfield 59, 3) := by decide +kernel
theorem dX1_two_69 : decode cX1_two 69 = .ok (.iconst 1, 1) := by decide +kernel
theorem dX1_two_70 : decode cX1_two 70 = .ok (.iadd, 1) := by decide +kernel
theorem dX1_two_71 : decode cX1_two 71 = .ok (.baload, 1) := by decide +kernel
theorem dX1_two_72 : decode cX1_two 72 = .ok (.ifCond .ne 7, 3) := by decide +kernel
theorem dX1_two_75 : decode cX1_two 75 = .ok (.iconst 1, 1) := by decide +kernel
theorem dX1_two_76 : decode cX1_two 76 = .ok (.goto 4, 3) := by decide +kernel
theorem dX1_two_79 : decode cX1_two 79 = .ok (.iconst 0, 1) := by decide +kernel
theorem dX1_two_80 : decode cX1_two 80 = .ok (.istore 7, 2) := by decide +kernel
theorem dX1_two_82 : decode cX1_two 82 = .ok (.iload_n 1, 1) := by decide +kernel
theorem dX1_two_83 : decode cX1_two 83 = .ok (.bipush 28, 2) := by decide +kernel
theorem dX1_two_85 : decode cX1_two 85 = .ok (.if_icmp .eq 9, 3) := by decide +kernel
theorem dX1_two_88 : decode cX1_two 88 = .ok (.iload_n 1, 1) := by decide +kernel
theorem dX1_two_89 : decode cX1_two 89 = .ok (.bipush 29, 2) := by decide +kernel
theorem dX1_two_91 : decode cX1_two 91 = .ok (.if_icmp .ne 91, 3) := by decide +kernel
theorem dX1_two_94 : decode cX1_two 94 = .ok (.iload_n 1, 1) := by decide +kernel
theorem dX1_two_95 : decode cX1_two 95 = .ok (.bipush 28, 2) := by decide +kernel
theorem dX1_two_97 : decode cX1_two 97 = .ok (.if_icmp .ne 7, 3) := by decide +kernel
theorem dX1_two_100 : decode cX1_two 100 = .ok (.iconst 0, 1) := by decide +kernel
theorem dX1_two_101 : decode cX1_two 101 = .ok (.goto 4, 3) := by decide +kernel
theorem dX1_two_104 : decode cX1_two 104 = .ok (.iconst 1, 1) := by decide +kernel
theorem dX1_two_105 : decode cX1_two 105 = .ok (.istore 8, 2) := by decide +kernel
theorem dX1_two_107 : decode cX1_two 107 = .ok (.iload 6, 2) := by decide +kernel
theorem dX1_two_109 : decode cX1_two 109 = .ok (.ifCond .eq 11, 3) := by decide +kernel
theorem dX1_two_112 : decode cX1_two 112 = .ok (.lload_n 2, 1) := by decide +kernel
theorem dX1_two_113 : decode cX1_two 113 = .ok (.iload 8, 2) := by decide +kernel
theorem dX1_two_115 : decode cX1_two 115 = .ok (.i2l, 1) := by decide +kernel
theorem dX1_two_116 : decode cX1_two 116 = .ok (.lcmp, 1) := by decide +kernel
theorem dX1_two_117 : decode cX1_two 117 = .ok (.ifCond .eq 17, 3) := by decide +kernel
theorem dX1_two_120 : decode cX1_two 120 = .ok (.iload 7, 2) := by decide +kernel
theorem dX1_two_122 : decode cX1_two 122 = .ok (.ifCond .eq 16, 3) := by decide +kernel
theorem dX1_two_125 : decode cX1_two 125 = .ok (.lload 4, 2) := by decide +kernel
theorem dX1_two_127 : decode cX1_two 127 = .ok (.iload 8, 2) := by decide +kernel
theorem dX1_two_129 : decode cX1_two 129 = .ok (.i2l, 1) := by decide +kernel
theorem dX1_two_130 : decode cX1_two 130 = .ok (.lcmp, 1) := by decide +kernel
theorem dX1_two_131 : decode cX1_two 131 = .ok (.ifCond .ne 7, 3) := by decide +kernel
theorem dX1_two_134 : decode cX1_two 134 = .ok (.iconst 1, 1) := by decide +kernel
theorem dX1_two_135 : decode cX1_two 135 = .ok (.goto 4, 3) := by decide +kernel
theorem dX1_two_138 : decode cX1_two 138 = .ok (.iconst 0, 1) := by decide +kernel
theorem dX1_two_139 : decode cX1_two 139 = .ok (.istore 9, 2) := by decide +kernel
theorem dX1_two_141 : decode cX1_two 141 = .ok (.aload_n 0, 1) := by decide +kernel
theorem dX1_two_142 : decode cX1_two 142 = .ok (.iload 9, 2) := by decide +kernel
theorem dX1_two_144 : decode cX1_two 144 = .ok (.ifCond .eq 9, 3) := by decide +kernel
theorem dX1_two_147 : decode cX1_two 147 = .ok (.iload 8, 2) := by decide +kernel
theorem dX1_two_149 : decode cX1_two 149 = .ok (.i2l, 1) := by decide +kernel
theorem dX1_two_150 : decode cX1_two 150 = .ok (.goto 8, 3) := by decide +kernel
theorem dX1_two_153 : decode cX1_two 153 = .ok (.iconst 1, 1) := by decide +kernel
theorem dX1_two_154 : decode cX1_two 154 = .ok (.iload 8, 2) := by decide +kernel
theorem dX1_two_156 : decode cX1_two 156 = .ok (.isub, 1) := by decide +kernel
theorem dX1_two_157 : decode cX1_two 157 = .ok (.i2l, 1) := by decide +kernel
theorem dX1_two_158 : decode cX1_two 158 = .ok (.iload 9, 2) := by decide +kernel
theorem dX1_two_160 : decode cX1_two 160 = .ok (.ifCond .ne 13, 3) := by decide +kernel
theorem dX1_two_163 : decode cX1_two 163 = .ok (.iload 6, 2) := by decide +kernel
theorem dX1_two_165 : decode cX1_two 165 = .ok (.ifCond .eq 12, 3) := by decide +kernel
theorem dX1_two_168 : decode cX1_two 168 = .ok (.iload 7, 2) := by decide +kernel
theorem dX1_two_170 : decode cX1_two 170 = .ok (.ifCond .eq 7, 3) := by decide +kernel
theorem dX1_two_173 : decode cX1_two 173 = .ok (.iconst 0, 1) := by decide +kernel
theorem dX1_two_174 : decode cX1_two 174 = .ok (.goto 4, 3) := by decide +kernel
theorem dX1_two_177 : decode cX1_two 177 = .ok (.iconst 1, 1) := by decide +kernel
theorem dX1_two_178 : decode cX1_two 178 = .ok (.invokevirtual 66, 3) := by decide +kernel
theorem dX1_two_181 : decode cX1_two 181 = .ok (.return_, 1) := by decide +kernel
theorem dX1_two_182 : decode cX1_two 182 = .ok (.iload 6, 2) := by decide +kernel
theorem dX1_two_184 : decode cX1_two 184 = .ok (.ifCond .eq 21, 3) := by decide +kernel
theorem dX1_two_187 : decode cX1_two 187 = .ok (.iload 7, 2) := by decide +kernel
theorem dX1_two_189 : decode cX1_two 189 = .ok (.ifCond .eq 16, 3) := by decide +kernel
theorem dX1_two_192 : decode cX1_two 192 = .ok (.iload_n 1, 1) := by decide +kernel
theorem dX1_two_193 : decode cX1_two 193 = .ok (.lload 4, 2) := by decide +kernel
theorem dX1_two_195 : decode cX1_two 195 = .ok (.invokestatic 93, 3) := by decide +kernel
theorem dX1_two_198 : decode cX1_two 198 = .ok (.ifCond .eq 7, 3) := by decide +kernel
theorem dX1_two_201 : decode cX1_two 201 = .ok (.iconst 1, 1) := by decide +kernel
theorem dX1_two_202 : decode cX1_two 202 = .ok (.goto 4, 3) := by decide +kernel
theorem dX1_two_205 : decode cX1_two 205 = .ok (.iconst 0, 1) := by decide +kernel
theorem dX1_two_206 : decode cX1_two 206 = .ok (.istore 8, 2) := by decide +kernel
theorem dX1_two_208 : decode cX1_two 208 = .ok (.aload_n 0, 1) := by decide +kernel
theorem dX1_two_209 : decode cX1_two 209 = .ok (.iload 8, 2) := by decide +kernel
theorem dX1_two_211 : decode cX1_two 211 = .ok (.ifCond .eq 13, 3) := by decide +kernel
theorem dX1_two_214 : decode cX1_two 214 = .ok (.iload_n 1, 1) := by decide +kernel
theorem dX1_two_215 : decode cX1_two 215 = .ok (.lload_n 2, 1) := by decide +kernel
theorem dX1_two_216 : decode cX1_two 216 = .ok (.lload 4, 2) := by decide +kernel
theorem dX1_two_218 : decode cX1_two 218 = .ok (.invokestatic 97, 3) := by decide +kernel
theorem dX1_two_221 : decode cX1_two 221 = .ok (.goto 4, 3) := by decide +kernel
theorem dX1_two_224 : decode cX1_two 224 = .ok (.lconst 0, 1) := by decide +kernel
theorem dX1_two_225 : decode cX1_two 225 = .ok (.iload 8, 2) := by decide +kernel
theorem dX1_two_227 : decode cX1_two 227 = .ok (.ifCond .eq 7, 3) := by decide +kernel
theorem dX1_two_230 : decode cX1_two 230 = .ok (.iconst 0, 1) := by decide +kernel
theorem dX1_two_231 : decode cX1_two 231 = .ok (.goto 4, 3) := by decide +kernel
theorem dX1_two_234 : decode cX1_two 234 = .ok (.iconst 1, 1) := by decide +kernel
theorem dX1_two_235 : decode cX1_two 235 = .ok (.invokevirtual 66, 3) := by decide +kernel
theorem dX1_two_238 : decode cX1_two 238 = .ok (.return_, 1) := by decide +kernel
def c_X1_two_b178 (F : Nat) (cs1 : CS) (y0 : Int32) (y1 : Int64) (y2 : Nat) : Option CS := Option.bind (ckE cs1 2 y2) fun _ => Option.bind (c_X1_push F cs1 y2 y1 y0) fun cs_1 => some cs_1
def c_X1_two_b173 (F : Nat) (cs1 : CS) (y0 : Int64) (y1 : Nat) : Option CS := c_X1_two_b178 F cs1 0 y0 y1
def c_X1_two_b177 (F : Nat) (cs1 : CS) (y0 : Int64) (y1 : Nat) : Option CS := c_X1_two_b178 F cs1 1 y0 y1
def c_X1_two_b158 (F : Nat) (cs1 : CS) (u6 : Int32) (u7 : Int32) (u9 : Int32) (y0 : Int64) (y1 : Nat) : Option CS := if u9 = 0 then (if u6 = 0 then (c_X1_two_b177 F cs1 y0 y1) else (if u7 = 0 then (c_X1_two_b177 F cs1 y0 y1) else (c_X1_two_b173 F cs1 y0 y1))) else (c_X1_two_b173 F cs1 y0 y1)
def c_X1_two_b139 (F : Nat) (cs1 : CS) (u0 : Nat) (u6 : Int32) (u7 : Int32) (u8 : Int32) (y0 : Int32) : Option CS := if y0 = 0 then (c_X1_two_b158 F cs1 u6 u7 y0 ((1 - u8 : Int32).toInt64) u0) else (c_X1_two_b158 F cs1 u6 u7 y0 ((u8 : Int32).toInt64) u0)
def c_X1_two_b134 (F : Nat) (cs1 : CS) (u0 : Nat) (u6 : Int32) (u7 : Int32) (u8 : Int32) : Option CS := c_X1_two_b139 F cs1 u0 u6 u7 u8 1
def c_X1_two_b138 (F : Nat) (cs1 : CS) (u0 : Nat) (u6 : Int32) (u7 : Int32) (u8 : Int32) : Option CS := c_X1_two_b139 F cs1 u0 u6 u7 u8 0
def c_X1_two_b120 (F : Nat) (cs1 : CS) (u0 : Nat) (u4 : Int64) (u6 : Int32) (u7 : Int32) (u8 : Int32) : Option CS := if u7 = 0 then (c_X1_two_b138 F cs1 u0 u6 u7 u8) else (if u4 = ((u8 : Int32).toInt64) then (c_X1_two_b134 F cs1 u0 u6 u7 u8) else (c_X1_two_b138 F cs1 u0 u6 u7 u8))
def c_X1_two_b105 (F : Nat) (cs1 : CS) (u0 : Nat) (u2 : Int64) (u4 : Int64) (u6 : Int32) (u7 : Int32) (y0 : Int32) : Option CS := if u6 = 0 then (c_X1_two_b120 F cs1 u0 u4 u6 u7 y0) else (if u2 = ((y0 : Int32).toInt64) then (c_X1_two_b134 F cs1 u0 u6 u7 y0) else (c_X1_two_b120 F cs1 u0 u4 u6 u7 y0))
def c_X1_two_b94 (F : Nat) (cs1 : CS) (u0 : Nat) (u1 : Int32) (u2 : Int64) (u4 : Int64) (u6 : Int32) (u7 : Int32) : Option CS := if u1 = 28 then (c_X1_two_b105 F cs1 u0 u2 u4 u6 u7 0) else (c_X1_two_b105 F cs1 u0 u2 u4 u6 u7 1)
def c_X1_two_b235 (F : Nat) (cs1 : CS) (y0 : Int32) (y1 : Int64) (y2 : Nat) : Option CS := Option.bind (ckE cs1 2 y2) fun _ => Option.bind (c_X1_push F cs1 y2 y1 y0) fun cs_12 => some cs_12
def c_X1_two_b225 (F : Nat) (cs1 : CS) (u8 : Int32) (y0 : Int64) (y1 : Nat) : Option CS := if u8 = 0 then (c_X1_two_b235 F cs1 1 y0 y1) else (c_X1_two_b235 F cs1 0 y0 y1)
def c_X1_two_b206 (F : Nat) (cs1 : CS) (u0 : Nat) (u1 : Int32) (u2 : Int64) (u4 : Int64) (y0 : Int32) : Option CS := if y0 = 0 then (c_X1_two_b225 F cs1 y0 0 u0) else (Option.bind (c_X1_reckon F cs1 u1 u2 u4) fun v_16 => c_X1_two_b225 F cs1 y0 v_16 u0)
def c_X1_two_b205 (F : Nat) (cs1 : CS) (u0 : Nat) (u1 : Int32) (u2 : Int64) (u4 : Int64) : Option CS := c_X1_two_b206 F cs1 u0 u1 u2 u4 0
def c_X1_two_b80 (F : Nat) (cs1 : CS) (u0 : Nat) (u1 : Int32) (u2 : Int64) (u4 : Int64) (u6 : Int32) (y0 : Int32) : Option CS := if u1 = 28 then (c_X1_two_b94 F cs1 u0 u1 u2 u4 u6 y0) else (if u1 = 29 then (c_X1_two_b94 F cs1 u0 u1 u2 u4 u6 y0) else (if u6 = 0 then (c_X1_two_b205 F cs1 u0 u1 u2 u4) else (if y0 = 0 then (c_X1_two_b205 F cs1 u0 u1 u2 u4) else (Option.bind (c_X1_hasResult F cs1 u1 u4) fun v_21 => if v_21 = 0 then (c_X1_two_b205 F cs1 u0 u1 u2 u4) else (c_X1_two_b206 F cs1 u0 u1 u2 u4 1)))))
def c_X1_two_b59 (F : Nat) (cs1 : CS) (u0 : Nat) (u1 : Int32) (u2 : Int64) (u4 : Int64) (y0 : Int32) : Option CS := Option.bind (gA cs1 2 75 u0) fun v_23 => Option.bind (gI cs1 2 76 u0) fun v_24 => Option.bind (rA cs1 75 u0 v_23 (v_24 + 1)) fun v_25 => if v_25 = 0 then (c_X1_two_b80 F cs1 u0 u1 u2 u4 y0 1) else (c_X1_two_b80 F cs1 u0 u1 u2 u4 y0 0)
def c_X1_two (F : Nat) (cs : CS) (x0 : Nat) (x1 : Int32) : Option CS := Option.bind (gI cs 2 76 x0) fun v_27 => if 2 ≤ v_27 then (Option.bind (gI cs 2 76 x0) fun v_29 => Option.bind (pI cs 2 76 x0 (v_29 - 2)) fun cs_30 => Option.bind (gA cs_30 2 74 x0) fun v_31 => Option.bind (gI cs_30 2 76 x0) fun v_32 => Option.bind (rB cs_30 74 x0 v_31 v_32) fun v_33 => Option.bind (gA cs_30 2 74 x0) fun v_34 => Option.bind (gI cs_30 2 76 x0) fun v_35 => Option.bind (rB cs_30 74 x0 v_34 (v_35 + 1)) fun v_36 => Option.bind (gA cs_30 2 75 x0) fun v_37 => Option.bind (gI cs_30 2 76 x0) fun v_38 => Option.bind (rA cs_30 75 x0 v_37 v_38) fun v_39 => if v_39 = 0 then (c_X1_two_b59 F cs_30 x0 x1 v_33 v_36 1) else (c_X1_two_b59 F cs_30 x0 x1 v_33 v_36 0)) else (some cs)
theorem cw_X1_X1_two {R : Room} {s : State} {args : Array Value} {y0 : MethodName} {c0 : ByteArray} {n0 : Nat} {r0 : Option FieldType} (hts : ∀ w ∈ wsOf y0 c0 n0 r0, w.before args s = true) {fr : Nat} (h1 : fr + 1 ≤ R.frames) (h2 : 8 + (10 + 11) + 60 * fr ≤ R.locals) : CallW R s args RX1 RX1 90 yX1_two cX1_two 10 none (wsOf yX1_two cX1_two 10 none) ({ frames := fr, cells := 0, slots := 0, locals := 60 * fr } : Room) 0 0 1 := cwV 1 hts (gd_all (in_V kw_1442 kw_1444 kw_77 kw_189 kc_X1_two)) rfl rfl rfl (by decide +kernel) ⟨h1, h2⟩
set_option maxHeartbeats 4000000 in
set_option maxRecDepth 100000 in
theorem sc_X1_two (l : Launch) (dC : Nat → ClassId) (dI : Nat → Nat → Nat) (cB cI cJ cZ cS cO : ClassId) (b : Nat) (K V : Nat → Nat) (fz : Value) (F : Nat) (cs : CS) (x0 : Nat) (x1 : Int32) (cs9 : CS) (hf : c_X1_two F cs x0 x1 = some cs9) : ocV l dC dI cB cI cJ cZ cS cO b K V fz yX1_two (wsOf yX1_two cX1_two 10 none) (1) [.ref (b + x0), .int x1] cs cs9 := by
  intro sz
  refine Met.ofW (cc := cX1_two) (maxL := 10) (ret := none) (by decide) rfl ?_
  intro p e s m args below meth c s₁ B hml hv
  obtain ⟨rfl, hsz, hP, hK, hD0, hZ⟩ := hv
  have hx := B.exec
  have hb := B.bytes
  have hr := B.returns
  have hts := atoms_spec (ws := (wsOf yX1_two cX1_two 10 none)) B.pre
  have hown : s.vm.findClass RX1 = some m.cls := findClass_of_methodNamed B.named
  have hlocks := B.notSynchronized
  subst hsz
  have hD := hD0.self (sz := s.heap.size)
  generalize hAe : va_A (cW cB cI cJ cZ cS cO b cs) s.heap.size = A at hD hZ ⊢
  have hA : ∀ q : Nat, s.heap.size ≤ q → A q := fun q h => by rw [← hAe]; exact Or.inr h
  have hS : va_S A s.heap s.heap [] := va_S.rf
  have hl := lv_entry ([.ref (b + x0), .int x1]) (n := 10) (Nat.le_of_ble_eq_true rfl)
  rw [lg_entry_eq]
  generalize (lg_sl ([.ref (b + x0), .int x1]) ++ List.replicate (10 - (lg_sl ([.ref (b + x0), .int x1])).length) Slot.unset).toArray = ls at hl ⊢
  have hl : lv_has ls 10 [(0, .ref (b + x0)), (1, .int x1)] := hl
  have B_178 : ∀ (cs1 : CS) (y0 : Int32) (y1 : Int64) (y2 : Nat), c_X1_two_b178 F cs1 y0 y1 y2 = some cs9 → ∀ (H : Heap) (locs : List Loc) (ls : Array Slot), va_P (dC, dI) vwCl (cW cB cI cJ cZ cS cO b cs1) H → va_D A (cW cB cI cJ cZ cS cO b cs1) → va_S A s.heap H locs → lv_has ls 10 [] → W p l e (headSpec (wsOf yX1_two cX1_two 10 none) ({ frames := 1, cells := 0, slots := 0, locals := 60 * (1) } : Room)).room s m ([.ref (b + x0), .int x1] : List Value).toArray below meth c H locs 0 0 (MQ below (va_Qv (fun (_ : Unit) => True) (fun _ t_ => va_P (dC, dI) vwCl (cW cB cI cJ cZ cS cO b cs9) t_.heap ∧ va_D A (cW cB cI cJ cZ cS cO b cs9)) A) ([.ref (b + x0), .int x1] : List Value).toArray s 0 0 A) (F0 m 178 ls [.int y0, .long y1, .ref (b + y2)]) := by
    intro cs1 y0 y1 y2 h H locs ls hP hD hS hl
    unfold c_X1_two_b178 at h
    replace h := ob h; obtain ⟨w_2, hw_2, h⟩ := h
    replace h := ob h; obtain ⟨cs_1, hv_1, h⟩ := h
    refine ccV (As := [.long y1, .int y0]) hx hb hml hts hown hK hP hD hS hA hZ (X := 2) (by decide) rfl (ckE_some hw_2) (sc_X1_push l dC dI cB cI cJ cZ cS cO b K V fz F cs1 y2 y1 y0 cs_1 hv_1) (cw_X1_X1_push hts (fr := 0) (Nat.le_of_ble_eq_true rfl) (Nat.le_of_ble_eq_true rfl)) rfl hl.1 (Nat.le_of_ble_eq_true rfl) ⟨Nat.zero_le _, Nat.zero_le _⟩ dX1_two_178 (fun H locs hP hD hS => ?_)
    have e1 := Option.some.inj h
    rw [e1] at hP hD
    exact W.vret hx hb hr (fun t_ ht hW => ⟨⟨(), rfl, trivial, by rw [ht]; exact hP, hD⟩, hS.F ht⟩) hS.2.2 dX1_two_181
  have B_173 : ∀ (cs1 : CS) (y0 : Int64) (y1 : Nat), c_X1_two_b173 F cs1 y0 y1 = some cs9 → ∀ (H : Heap) (locs : List Loc) (ls : Array Slot), va_P (dC, dI) vwCl (cW cB cI cJ cZ cS cO b cs1) H → va_D A (cW cB cI cJ cZ cS cO b cs1) → va_S A s.heap H locs → lv_has ls 10 [] → W p l e (headSpec (wsOf yX1_two cX1_two 10 none) ({ frames := 1, cells := 0, slots := 0, locals := 60 * (1) } : Room)).room s m ([.ref (b + x0), .int x1] : List Value).toArray below meth c H locs 0 0 (MQ below (va_Qv (fun (_ : Unit) => True) (fun _ t_ => va_P (dC, dI) vwCl (cW cB cI cJ cZ cS cO b cs9) t_.heap ∧ va_D A (cW cB cI cJ cZ cS cO b cs9)) A) ([.ref (b + x0), .int x1] : List Value).toArray s 0 0 A) (F0 m 173 ls [.long y0, .ref (b + y1)]) := by
    intro cs1 y0 y1 h H locs ls hP hD hS hl
    unfold c_X1_two_b173 at h
    refine lv_iconst (v := 0) hx hb dX1_two_173 (by decide) ?_
    refine lv_goto (tgt := 178) hx hb dX1_two_174 (by decide) ?_
    exact B_178 cs1 0 y0 y1 h _ _ _ hP hD hS (lv_sub hl [] rfl)
  have B_177 : ∀ (cs1 : CS) (y0 : Int64) (y1 : Nat), c_X1_two_b177 F cs1 y0 y1 = some cs9 → ∀ (H : Heap) (locs : List Loc) (ls : Array Slot), va_P (dC, dI) vwCl (cW cB cI cJ cZ cS cO b cs1) H → va_D A (cW cB cI cJ cZ cS cO b cs1) → va_S A s.heap H locs → lv_has ls 10 [] → W p l e (headSpec (wsOf yX1_two cX1_two 10 none) ({ frames := 1, cells := 0, slots := 0, locals := 60 * (1) } : Room)).room s m ([.ref (b + x0), .int x1] : List Value).toArray below meth c H locs 0 0 (MQ below (va_Qv (fun (_ : Unit) => True) (fun _ t_ => va_P (dC, dI) vwCl (cW cB cI cJ cZ cS cO b cs9) t_.heap ∧ va_D A (cW cB cI cJ cZ cS cO b cs9)) A) ([.ref (b + x0), .int x1] : List Value).toArray s 0 0 A) (F0 m 177 ls [.long y0, .ref (b + y1)]) := by
    intro cs1 y0 y1 h H locs ls hP hD hS hl
    unfold c_X1_two_b177 at h
    refine lv_iconst (v := 1) hx hb dX1_two_177 (by decide) ?_
    exact B_178 cs1 1 y0 y1 h _ _ _ hP hD hS (lv_sub hl [] rfl)
  have B_158 : ∀ (cs1 : CS) (u6 : Int32) (u7 : Int32) (u9 : Int32) (y0 : Int64) (y1 : Nat), c_X1_two_b158 F cs1 u6 u7 u9 y0 y1 = some cs9 → ∀ (H : Heap) (locs : List Loc) (ls : Array Slot), va_P (dC, dI) vwCl (cW cB cI cJ cZ cS cO b cs1) H → va_D A (cW cB cI cJ cZ cS cO b cs1) → va_S A s.heap H locs → lv_has ls 10 [(6, .int u6), (7, .int u7), (9, .int u9)] → W p l e (headSpec (wsOf yX1_two cX1_two 10 none) ({ frames := 1, cells := 0, slots := 0, locals := 60 * (1) } : Room)).room s m ([.ref (b + x0), .int x1] : List Value).toArray below meth c H locs 0 0 (MQ below (va_Qv (fun (_ : Unit) => True) (fun _ t_ => va_P (dC, dI) vwCl (cW cB cI cJ cZ cS cO b cs9) t_.heap ∧ va_D A (cW cB cI cJ cZ cS cO b cs9)) A) ([.ref (b + x0), .int x1] : List Value).toArray s 0 0 A) (F0 m 158 ls [.long y0, .ref (b + y1)]) := by
    intro cs1 u6 u7 u9 y0 y1 h H locs ls hP hD hS hl
    unfold c_X1_two_b158 at h
    refine lv_iload hx hb dX1_two_158 (lv_at hl 2 rfl) ?_
    refine lv_if_ne (tgt := 173) hx hb dX1_two_160 (by decide) (fun c_3 => ?_) (fun c_3 => ?_)
    · skip
      replace h := (if_neg c_3).symm.trans h
      exact B_173 cs1 y0 y1 h _ _ _ hP hD hS (lv_sub hl [] rfl)
    · skip
      replace h := (if_pos c_3).symm.trans h
      refine lv_iload hx hb dX1_two_163 (lv_at hl 0 rfl) ?_
      refine lv_if_eq (tgt := 177) hx hb dX1_two_165 (by decide) (fun c_4 => ?_) (fun c_4 => ?_)
      · skip
        replace h := (if_pos c_4).symm.trans h
        exact B_177 cs1 y0 y1 h _ _ _ hP hD hS (lv_sub hl [] rfl)
      · skip
        replace h := (if_neg c_4).symm.trans h
        refine lv_iload hx hb dX1_two_168 (lv_at hl 1 rfl) ?_
        refine lv_if_eq (tgt := 177) hx hb dX1_two_170 (by decide) (fun c_5 => ?_) (fun c_5 => ?_)
        · skip
          replace h := (if_pos c_5).symm.trans h
          exact B_177 cs1 y0 y1 h _ _ _ hP hD hS (lv_sub hl [] rfl)
        · skip
          replace h := (if_neg c_5).symm.trans h
          exact B_173 cs1 y0 y1 h _ _ _ hP hD hS (lv_sub hl [] rfl)
  have B_139 : ∀ (cs1 : CS) (u0 : Nat) (u6 : Int32) (u7 : Int32) (u8 : Int32) (y0 : Int32), c_X1_two_b139 F cs1 u0 u6 u7 u8 y0 = some cs9 → ∀ (H : Heap) (locs : List Loc) (ls : Array Slot), va_P (dC, dI) vwCl (cW cB cI cJ cZ cS cO b cs1) H → va_D A (cW cB cI cJ cZ cS cO b cs1) → va_S A s.heap H locs → lv_has ls 10 [(0, .ref (b + u0)), (6, .int u6), (7, .int u7), (8, .int u8)] → W p l e (headSpec (wsOf yX1_two cX1_two 10 none) ({ frames := 1, cells := 0, slots := 0, locals := 60 * (1) } : Room)).room s m ([.ref (b + x0), .int x1] : List Value).toArray below meth c H locs 0 0 (MQ below (va_Qv (fun (_ : Unit) => True) (fun _ t_ => va_P (dC, dI) vwCl (cW cB cI cJ cZ cS cO b cs9) t_.heap ∧ va_D A (cW cB cI cJ cZ cS cO b cs9)) A) ([.ref (b + x0), .int x1] : List Value).toArray s 0 0 A) (F0 m 139 ls [.int y0]) := by
    intro cs1 u0 u6 u7 u8 y0 h H locs ls hP hD hS hl
    unfold c_X1_two_b139 at h
    refine lv_istore (lv' := [(9, .int y0), (0, .ref (b + u0)), (6, .int u6), (7, .int u7), (8, .int u8)]) hx hb dX1_two_139 hl (by decide) rfl (fun ls hl => ?_)
    refine lv_aload_n hx hb dX1_two_141 rfl (lv_at hl 1 rfl) ?_
    refine lv_iload hx hb dX1_two_142 (lv_at hl 0 rfl) ?_
    refine lv_if_eq (tgt := 153) hx hb dX1_two_144 (by decide) (fun c_6 => ?_) (fun c_6 => ?_)
    · skip
      replace h := (if_pos c_6).symm.trans h
      refine lv_iconst (v := 1) hx hb dX1_two_153 (by decide) ?_
      refine lv_iload hx hb dX1_two_154 (lv_at hl 4 rfl) ?_
      refine lv_isub hx hb dX1_two_156 ?_
      refine lv_i2l hx hb dX1_two_157 rfl ?_
      exact B_158 cs1 u6 u7 y0 ((1 - u8 : Int32).toInt64) u0 h _ _ _ hP hD hS (lv_sub hl [2, 3, 0] rfl)
    · skip
      replace h := (if_neg c_6).symm.trans h
      refine lv_iload hx hb dX1_two_147 (lv_at hl 4 rfl) ?_
      refine lv_i2l hx hb dX1_two_149 rfl ?_
      refine lv_goto (tgt := 158) hx hb dX1_two_150 (by decide) ?_
      exact B_158 cs1 u6 u7 y0 ((u8 : Int32).toInt64) u0 h _ _ _ hP hD hS (lv_sub hl [2, 3, 0] rfl)
  have B_134 : ∀ (cs1 : CS) (u0 : Nat) (u6 : Int32) (u7 : Int32) (u8 : Int32), c_X1_two_b134 F cs1 u0 u6 u7 u8 = some cs9 → ∀ (H : Heap) (locs : List Loc) (ls : Array Slot), va_P (dC, dI) vwCl (cW cB cI cJ cZ cS cO b cs1) H → va_D A (cW cB cI cJ cZ cS cO b cs1) → va_S A s.heap H locs → lv_has ls 10 [(0, .ref (b + u0)), (6, .int u6), (7, .int u7), (8, .int u8)] → W p l e (headSpec (wsOf yX1_two cX1_two 10 none) ({ frames := 1, cells := 0, slots := 0, locals := 60 * (1) } : Room)).room s m ([.ref (b + x0), .int x1] : List Value).toArray below meth c H locs 0 0 (MQ below (va_Qv (fun (_ : Unit) => True) (fun _ t_ => va_P (dC, dI) vwCl (cW cB cI cJ cZ cS cO b cs9) t_.heap ∧ va_D A (cW cB cI cJ cZ cS cO b cs9)) A) ([.ref (b + x0), .int x1] : List Value).toArray s 0 0 A) (F0 m 134 ls []) := by
    intro cs1 u0 u6 u7 u8 h H locs ls hP hD hS hl
    unfold c_X1_two_b134 at h
    refine lv_iconst (v := 1) hx hb dX1_two_134 (by decide) ?_
    refine lv_goto (tgt := 139) hx hb dX1_two_135 (by decide) ?_
    exact B_139 cs1 u0 u6 u7 u8 1 h _ _ _ hP hD hS (lv_sub hl [0, 1, 2, 3] rfl)
  have B_138 : ∀ (cs1 : CS) (u0 : Nat) (u6 : Int32) (u7 : Int32) (u8 : Int32), c_X1_two_b138 F cs1 u0 u6 u7 u8 = some cs9 → ∀ (H : Heap) (locs : List Loc) (ls : Array Slot), va_P (dC, dI) vwCl (cW cB cI cJ cZ cS cO b cs1) H → va_D A (cW cB cI cJ cZ cS cO b cs1) → va_S A s.heap H locs → lv_has ls 10 [(0, .ref (b + u0)), (6, .int u6), (7, .int u7), (8, .int u8)] → W p l e (headSpec (wsOf yX1_two cX1_two 10 none) ({ frames := 1, cells := 0, slots := 0, locals := 60 * (1) } : Room)).room s m ([.ref (b + x0), .int x1] : List Value).toArray below meth c H locs 0 0 (MQ below (va_Qv (fun (_ : Unit) => True) (fun _ t_ => va_P (dC, dI) vwCl (cW cB cI cJ cZ cS cO b cs9) t_.heap ∧ va_D A (cW cB cI cJ cZ cS cO b cs9)) A) ([.ref (b + x0), .int x1] : List Value).toArray s 0 0 A) (F0 m 138 ls []) := by
    intro cs1 u0 u6 u7 u8 h H locs ls hP hD hS hl
    unfold c_X1_two_b138 at h
    refine lv_iconst (v := 0) hx hb dX1_two_138 (by decide) ?_
    exact B_139 cs1 u0 u6 u7 u8 0 h _ _ _ hP hD hS (lv_sub hl [0, 1, 2, 3] rfl)
  have B_120 : ∀ (cs1 : CS) (u0 : Nat) (u4 : Int64) (u6 : Int32) (u7 : Int32) (u8 : Int32), c_X1_two_b120 F cs1 u0 u4 u6 u7 u8 = some cs9 → ∀ (H : Heap) (locs : List Loc) (ls : Array Slot), va_P (dC, dI) vwCl (cW cB cI cJ cZ cS cO b cs1) H → va_D A (cW cB cI cJ cZ cS cO b cs1) → va_S A s.heap H locs → lv_has ls 10 [(0, .ref (b + u0)), (4, .long u4), (6, .int u6), (7, .int u7), (8, .int u8)] → W p l e (headSpec (wsOf yX1_two cX1_two 10 none) ({ frames := 1, cells := 0, slots := 0, locals := 60 * (1) } : Room)).room s m ([.ref (b + x0), .int x1] : List Value).toArray below meth c H locs 0 0 (MQ below (va_Qv (fun (_ : Unit) => True) (fun _ t_ => va_P (dC, dI) vwCl (cW cB cI cJ cZ cS cO b cs9) t_.heap ∧ va_D A (cW cB cI cJ cZ cS cO b cs9)) A) ([.ref (b + x0), .int x1] : List Value).toArray s 0 0 A) (F0 m 120 ls []) := by
    intro cs1 u0 u4 u6 u7 u8 h H locs ls hP hD hS hl
    unfold c_X1_two_b120 at h
    refine lv_iload hx hb dX1_two_120 (lv_at hl 3 rfl) ?_
    refine lv_if_eq (tgt := 138) hx hb dX1_two_122 (by decide) (fun c_7 => ?_) (fun c_7 => ?_)
    · skip
      replace h := (if_pos c_7).symm.trans h
      exact B_138 cs1 u0 u6 u7 u8 h _ _ _ hP hD hS (lv_sub hl [0, 2, 3, 4] rfl)
    · skip
      replace h := (if_neg c_7).symm.trans h
      refine lv_lload hx hb dX1_two_125 (lv_at hl 1 rfl) ?_
      refine lv_iload hx hb dX1_two_127 (lv_at hl 4 rfl) ?_
      refine lv_i2l hx hb dX1_two_129 rfl ?_
      refine W.lcmp hx hb dX1_two_130 ?_
      refine lv_if_ne (tgt := 138) hx hb dX1_two_131 (by decide) (fun c_8 => ?_) (fun c_8 => ?_)
      · skip
        have c_8 : ¬ (u4 = ((u8 : Int32).toInt64)) := fun h9 => c_8 ((lg_cmp_eq _ _).mpr h9)
        replace h := (if_neg c_8).symm.trans h
        exact B_138 cs1 u0 u6 u7 u8 h _ _ _ hP hD hS (lv_sub hl [0, 2, 3, 4] rfl)
      · skip
        have c_8 : u4 = ((u8 : Int32).toInt64) := (lg_cmp_eq _ _).mp c_8
        replace h := (if_pos c_8).symm.trans h
        exact B_134 cs1 u0 u6 u7 u8 h _ _ _ hP hD hS (lv_sub hl [0, 2, 3, 4] rfl)
  have B_105 : ∀ (cs1 : CS) (u0 : Nat) (u2 : Int64) (u4 : Int64) (u6 : Int32) (u7 : Int32) (y0 : Int32), c_X1_two_b105 F cs1 u0 u2 u4 u6 u7 y0 = some cs9 → ∀ (H : Heap) (locs : List Loc) (ls : Array Slot), va_P (dC, dI) vwCl (cW cB cI cJ cZ cS cO b cs1) H → va_D A (cW cB cI cJ cZ cS cO b cs1) → va_S A s.heap H locs → lv_has ls 10 [(0, .ref (b + u0)), (2, .long u2), (4, .long u4), (6, .int u6), (7, .int u7)] → W p l e (headSpec (wsOf yX1_two cX1_two 10 none) ({ frames := 1, cells := 0, slots := 0, locals := 60 * (1) } : Room)).room s m ([.ref (b + x0), .int x1] : List Value).toArray below meth c H locs 0 0 (MQ below (va_Qv (fun (_ : Unit) => True) (fun _ t_ => va_P (dC, dI) vwCl (cW cB cI cJ cZ cS cO b cs9) t_.heap ∧ va_D A (cW cB cI cJ cZ cS cO b cs9)) A) ([.ref (b + x0), .int x1] : List Value).toArray s 0 0 A) (F0 m 105 ls [.int y0]) := by
    intro cs1 u0 u2 u4 u6 u7 y0 h H locs ls hP hD hS hl
    unfold c_X1_two_b105 at h
    refine lv_istore (lv' := [(8, .int y0), (0, .ref (b + u0)), (2, .long u2), (4, .long u4), (6, .int u6), (7, .int u7)]) hx hb dX1_two_105 hl (by decide) rfl (fun ls hl => ?_)
    refine lv_iload hx hb dX1_two_107 (lv_at hl 4 rfl) ?_
    refine lv_if_eq (tgt := 120) hx hb dX1_two_109 (by decide) (fun c_9 => ?_) (fun c_9 => ?_)
    · skip
      replace h := (if_pos c_9).symm.trans h
      exact B_120 cs1 u0 u4 u6 u7 y0 h _ _ _ hP hD hS (lv_sub hl [1, 3, 4, 5, 0] rfl)
    · skip
      replace h := (if_neg c_9).symm.trans h
      refine lv_lload_n hx hb dX1_two_112 rfl (lv_at hl 2 rfl) ?_
      refine lv_iload hx hb dX1_two_113 (lv_at hl 0 rfl) ?_
      refine lv_i2l hx hb dX1_two_115 rfl ?_
      refine W.lcmp hx hb dX1_two_116 ?_
      refine lv_if_eq (tgt := 134) hx hb dX1_two_117 (by decide) (fun c_10 => ?_) (fun c_10 => ?_)
      · skip
        have c_10 : u2 = ((y0 : Int32).toInt64) := (lg_cmp_eq _ _).mp c_10
        replace h := (if_pos c_10).symm.trans h
        exact B_134 cs1 u0 u6 u7 y0 h _ _ _ hP hD hS (lv_sub hl [1, 4, 5, 0] rfl)
      · skip
        have c_10 : ¬ (u2 = ((y0 : Int32).toInt64)) := fun h9 => c_10 ((lg_cmp_eq _ _).mpr h9)
        replace h := (if_neg c_10).symm.trans h
        exact B_120 cs1 u0 u4 u6 u7 y0 h _ _ _ hP hD hS (lv_sub hl [1, 3, 4, 5, 0] rfl)
  have B_94 : ∀ (cs1 : CS) (u0 : Nat) (u1 : Int32) (u2 : Int64) (u4 : Int64) (u6 : Int32) (u7 : Int32), c_X1_two_b94 F cs1 u0 u1 u2 u4 u6 u7 = some cs9 → ∀ (H : Heap) (locs : List Loc) (ls : Array Slot), va_P (dC, dI) vwCl (cW cB cI cJ cZ cS cO b cs1) H → va_D A (cW cB cI cJ cZ cS cO b cs1) → va_S A s.heap H locs → lv_has ls 10 [(0, .ref (b + u0)), (1, .int u1), (2, .long u2), (4, .long u4), (6, .int u6), (7, .int u7)] → W p l e (headSpec (wsOf yX1_two cX1_two 10 none) ({ frames := 1, cells := 0, slots := 0, locals := 60 * (1) } : Room)).room s m ([.ref (b + x0), .int x1] : List Value).toArray below meth c H locs 0 0 (MQ below (va_Qv (fun (_ : Unit) => True) (fun _ t_ => va_P (dC, dI) vwCl (cW cB cI cJ cZ cS cO b cs9) t_.heap ∧ va_D A (cW cB cI cJ cZ cS cO b cs9)) A) ([.ref (b + x0), .int x1] : List Value).toArray s 0 0 A) (F0 m 94 ls []) := by
    intro cs1 u0 u1 u2 u4 u6 u7 h H locs ls hP hD hS hl
    unfold c_X1_two_b94 at h
    refine lv_iload_n hx hb dX1_two_94 rfl (lv_at hl 1 rfl) ?_
    refine lv_bipush (v := 28) hx hb dX1_two_95 (by decide) ?_
    refine lv_icmp_ne (tgt := 104) hx hb dX1_two_97 (by decide) (fun c_11 => ?_) (fun c_11 => ?_)
    · skip
      replace h := (if_neg c_11).symm.trans h
      refine lv_iconst (v := 1) hx hb dX1_two_104 (by decide) ?_
      exact B_105 cs1 u0 u2 u4 u6 u7 1 h _ _ _ hP hD hS (lv_sub hl [0, 2, 3, 4, 5] rfl)
    · skip
      replace h := (if_pos c_11).symm.trans h
      refine lv_iconst (v := 0) hx hb dX1_two_100 (by decide) ?_
      refine lv_goto (tgt := 105) hx hb dX1_two_101 (by decide) ?_
      exact B_105 cs1 u0 u2 u4 u6 u7 0 h _ _ _ hP hD hS (lv_sub hl [0, 2, 3, 4, 5] rfl)
  have B_235 : ∀ (cs1 : CS) (y0 : Int32) (y1 : Int64) (y2 : Nat), c_X1_two_b235 F cs1 y0 y1 y2 = some cs9 → ∀ (H : Heap) (locs : List Loc) (ls : Array Slot), va_P (dC, dI) vwCl (cW cB cI cJ cZ cS cO b cs1) H → va_D A (cW cB cI cJ cZ cS cO b cs1) → va_S A s.heap H locs → lv_has ls 10 [] → W p l e (headSpec (wsOf yX1_two cX1_two 10 none) ({ frames := 1, cells := 0, slots := 0, locals := 60 * (1) } : Room)).room s m ([.ref (b + x0), .int x1] : List Value).toArray below meth c H locs 0 0 (MQ below (va_Qv (fun (_ : Unit) => True) (fun _ t_ => va_P (dC, dI) vwCl (cW cB cI cJ cZ cS cO b cs9) t_.heap ∧ va_D A (cW cB cI cJ cZ cS cO b cs9)) A) ([.ref (b + x0), .int x1] : List Value).toArray s 0 0 A) (F0 m 235 ls [.int y0, .long y1, .ref (b + y2)]) := by
    intro cs1 y0 y1 y2 h H locs ls hP hD hS hl
    unfold c_X1_two_b235 at h
    replace h := ob h; obtain ⟨w_13, hw_13, h⟩ := h
    replace h := ob h; obtain ⟨cs_12, hv_12, h⟩ := h
    refine ccV (As := [.long y1, .int y0]) hx hb hml hts hown hK hP hD hS hA hZ (X := 2) (by decide) rfl (ckE_some hw_13) (sc_X1_push l dC dI cB cI cJ cZ cS cO b K V fz F cs1 y2 y1 y0 cs_12 hv_12) (cw_X1_X1_push hts (fr := 0) (Nat.le_of_ble_eq_true rfl) (Nat.le_of_ble_eq_true rfl)) rfl hl.1 (Nat.le_of_ble_eq_true rfl) ⟨Nat.zero_le _, Nat.zero_le _⟩ dX1_two_235 (fun H locs hP hD hS => ?_)
    have e1 := Option.some.inj h
    rw [e1] at hP hD
    exact W.vret hx hb hr (fun t_ ht hW => ⟨⟨(), rfl, trivial, by rw [ht]; exact hP, hD⟩, hS.F ht⟩) hS.2.2 dX1_two_238
  have B_225 : ∀ (cs1 : CS) (u8 : Int32) (y0 : Int64) (y1 : Nat), c_X1_two_b225 F cs1 u8 y0 y1 = some cs9 → ∀ (H : Heap) (locs : List Loc) (ls : Array Slot), va_P (dC, dI) vwCl (cW cB cI cJ cZ cS cO b cs1) H → va_D A (cW cB cI cJ cZ cS cO b cs1) → va_S A s.heap H locs → lv_has ls 10 [(8, .int u8)] → W p l e (headSpec (wsOf yX1_two cX1_two 10 none) ({ frames := 1, cells := 0, slots := 0, locals := 60 * (1) } : Room)).room s m ([.ref (b + x0), .int x1] : List Value).toArray below meth c H locs 0 0 (MQ below (va_Qv (fun (_ : Unit) => True) (fun _ t_ => va_P (dC, dI) vwCl (cW cB cI cJ cZ cS cO b cs9) t_.heap ∧ va_D A (cW cB cI cJ cZ cS cO b cs9)) A) ([.ref (b + x0), .int x1] : List Value).toArray s 0 0 A) (F0 m 225 ls [.long y0, .ref (b + y1)]) := by
    intro cs1 u8 y0 y1 h H locs ls hP hD hS hl
    unfold c_X1_two_b225 at h
    refine lv_iload hx hb dX1_two_225 (lv_at hl 0 rfl) ?_
    refine lv_if_eq (tgt := 234) hx hb dX1_two_227 (by decide) (fun c_14 => ?_) (fun c_14 => ?_)
    · skip
      replace h := (if_pos c_14).symm.trans h
      refine lv_iconst (v := 1) hx hb dX1_two_234 (by decide) ?_
      exact B_235 cs1 1 y0 y1 h _ _ _ hP hD hS (lv_sub hl [] rfl)
    · skip
      replace h := (if_neg c_14).symm.trans h
      refine lv_iconst (v := 0) hx hb dX1_two_230 (by decide) ?_
      refine lv_goto (tgt := 235) hx hb dX1_two_231 (by decide) ?_
      exact B_235 cs1 0 y0 y1 h _ _ _ hP hD hS (lv_sub hl [] rfl)
  have B_206 : ∀ (cs1 : CS) (u0 : Nat) (u1 : Int32) (u2 : Int64) (u4 : Int64) (y0 : Int32), c_X1_two_b206 F cs1 u0 u1 u2 u4 y0 = some cs9 → ∀ (H : Heap) (locs : List Loc) (ls : Array Slot), va_P (dC, dI) vwCl (cW cB cI cJ cZ cS cO b cs1) H → va_D A (cW cB cI cJ cZ cS cO b cs1) → va_S A s.heap H locs → lv_has ls 10 [(0, .ref (b + u0)), (1, .int u1), (2, .long u2), (4, .long u4)] → W p l e (headSpec (wsOf yX1_two cX1_two 10 none) ({ frames := 1, cells := 0, slots := 0, locals := 60 * (1) } : Room)).room s m ([.ref (b + x0), .int x1] : List Value).toArray below meth c H locs 0 0 (MQ below (va_Qv (fun (_ : Unit) => True) (fun _ t_ => va_P (dC, dI) vwCl (cW cB cI cJ cZ cS cO b cs9) t_.heap ∧ va_D A (cW cB cI cJ cZ cS cO b cs9)) A) ([.ref (b + x0), .int x1] : List Value).toArray s 0 0 A) (F0 m 206 ls [.int y0]) := by
    intro cs1 u0 u1 u2 u4 y0 h H locs ls hP hD hS hl
    unfold c_X1_two_b206 at h
    refine lv_istore (lv' := [(8, .int y0), (0, .ref (b + u0)), (1, .int u1), (2, .long u2), (4, .long u4)]) hx hb dX1_two_206 hl (by decide) rfl (fun ls hl => ?_)
    refine lv_aload_n hx hb dX1_two_208 rfl (lv_at hl 1 rfl) ?_
    refine lv_iload hx hb dX1_two_209 (lv_at hl 0 rfl) ?_
    refine lv_if_eq (tgt := 224) hx hb dX1_two_211 (by decide) (fun c_15 => ?_) (fun c_15 => ?_)
    · skip
      replace h := (if_pos c_15).symm.trans h
      refine lv_lconst (v := 0) hx hb dX1_two_224 (by decide) ?_
      exact B_225 cs1 y0 0 u0 h _ _ _ hP hD hS (lv_sub hl [0] rfl)
    · skip
      replace h := (if_neg c_15).symm.trans h
      refine lv_iload_n hx hb dX1_two_214 rfl (lv_at hl 2 rfl) ?_
      refine lv_lload_n hx hb dX1_two_215 rfl (lv_at hl 3 rfl) ?_
      refine lv_lload hx hb dX1_two_216 (lv_at hl 4 rfl) ?_
      replace h := ob h; obtain ⟨v_16, hv_16, h⟩ := h
      refine ccSL (As := [.int u1, .long u2, .long u4]) hx hb hml hts hown hK hP hD hS hA hZ (sc_X1_reckon l dC dI cB cI cJ cZ cS cO b K V fz F cs1 u1 u2 u4 v_16 hv_16) (cw_X1_X1_reckon hts (fr := 0) (Nat.le_of_ble_eq_true rfl) (Nat.le_of_ble_eq_true rfl)) rfl hl.1 (Nat.le_of_ble_eq_true rfl) ⟨Nat.zero_le _, Nat.zero_le _⟩ dX1_two_218 (fun H locs hP hD hS => ?_)
      refine lv_goto (tgt := 225) hx hb dX1_two_221 (by decide) ?_
      exact B_225 cs1 y0 v_16 u0 h _ _ _ hP hD hS (lv_sub hl [0] rfl)
  have B_205 : ∀ (cs1 : CS) (u0 : Nat) (u1 : Int32) (u2 : Int64) (u4 : Int64), c_X1_two_b205 F cs1 u0 u1 u2 u4 = some cs9 → ∀ (H : Heap) (locs : List Loc) (ls : Array Slot), va_P (dC, dI) vwCl (cW cB cI cJ cZ cS cO b cs1) H → va_D A (cW cB cI cJ cZ cS cO b cs1) → va_S A s.heap H locs → lv_has ls 10 [(0, .ref (b + u0)), (1, .int u1), (2, .long u2), (4, .long u4)] → W p l e (headSpec (wsOf yX1_two cX1_two 10 none) ({ frames := 1, cells := 0, slots := 0, locals := 60 * (1) } : Room)).room s m ([.ref (b + x0), .int x1] : List Value).toArray below meth c H locs 0 0 (MQ below (va_Qv (fun (_ : Unit) => True) (fun _ t_ => va_P (dC, dI) vwCl (cW cB cI cJ cZ cS cO b cs9) t_.heap ∧ va_D A (cW cB cI cJ cZ cS cO b cs9)) A) ([.ref (b + x0), .int x1] : List Value).toArray s 0 0 A) (F0 m 205 ls []) := by
    intro cs1 u0 u1 u2 u4 h H locs ls hP hD hS hl
    unfold c_X1_two_b205 at h
    refine lv_iconst (v := 0) hx hb dX1_two_205 (by decide) ?_
    exact B_206 cs1 u0 u1 u2 u4 0 h _ _ _ hP hD hS (lv_sub hl [0, 1, 2, 3] rfl)
  have B_80 : ∀ (cs1 : CS) (u0 : Nat) (u1 : Int32) (u2 : Int64) (u4 : Int64) (u6 : Int32) (y0 : Int32), c_X1_two_b80 F cs1 u0 u1 u2 u4 u6 y0 = some cs9 → ∀ (H : Heap) (locs : List Loc) (ls : Array Slot), va_P (dC, dI) vwCl (cW cB cI cJ cZ cS cO b cs1) H → va_D A (cW cB cI cJ cZ cS cO b cs1) → va_S A s.heap H locs → lv_has ls 10 [(0, .ref (b + u0)), (1, .int u1), (2, .long u2), (4, .long u4), (6, .int u6)] → W p l e (headSpec (wsOf yX1_two cX1_two 10 none) ({ frames := 1, cells := 0, slots := 0, locals := 60 * (1) } : Room)).room s m ([.ref (b + x0), .int x1] : List Value).toArray below meth c H locs 0 0 (MQ below (va_Qv (fun (_ : Unit) => True) (fun _ t_ => va_P (dC, dI) vwCl (cW cB cI cJ cZ cS cO b cs9) t_.heap ∧ va_D A (cW cB cI cJ cZ cS cO b cs9)) A) ([.ref (b + x0), .int x1] : List Value).toArray s 0 0 A) (F0 m 80 ls [.int y0]) := by
    intro cs1 u0 u1 u2 u4 u6 y0 h H locs ls hP hD hS hl
    unfold c_X1_two_b80 at h
    refine lv_istore (lv' := [(7, .int y0), (0, .ref (b + u0)), (1, .int u1), (2, .long u2), (4, .long u4), (6, .int u6)]) hx hb dX1_two_80 hl (by decide) rfl (fun ls hl => ?_)
    refine lv_iload_n hx hb dX1_two_82 rfl (lv_at hl 2 rfl) ?_
    refine lv_bipush (v := 28) hx hb dX1_two_83 (by decide) ?_
    refine lv_icmp_eq (tgt := 94) hx hb dX1_two_85 (by decide) (fun c_17 => ?_) (fun c_17 => ?_)
    · skip
      replace h := (if_pos c_17).symm.trans h
      exact B_94 cs1 u0 u1 u2 u4 u6 y0 h _ _ _ hP hD hS (lv_sub hl [1, 2, 3, 4, 5, 0] rfl)
    · skip
      replace h := (if_neg c_17).symm.trans h
      refine lv_iload_n hx hb dX1_two_88 rfl (lv_at hl 2 rfl) ?_
      refine lv_bipush (v := 29) hx hb dX1_two_89 (by decide) ?_
      refine lv_icmp_ne (tgt := 182) hx hb dX1_two_91 (by decide) (fun c_18 => ?_) (fun c_18 => ?_)
      · skip
        replace h := (if_neg c_18).symm.trans h
        refine lv_iload hx hb dX1_two_182 (lv_at hl 5 rfl) ?_
        refine lv_if_eq (tgt := 205) hx hb dX1_two_184 (by decide) (fun c_19 => ?_) (fun c_19 => ?_)
        · skip
          replace h := (if_pos c_19).symm.trans h
          exact B_205 cs1 u0 u1 u2 u4 h _ _ _ hP hD hS (lv_sub hl [1, 2, 3, 4] rfl)
        · skip
          replace h := (if_neg c_19).symm.trans h
          refine lv_iload hx hb dX1_two_187 (lv_at hl 0 rfl) ?_
          refine lv_if_eq (tgt := 205) hx hb dX1_two_189 (by decide) (fun c_20 => ?_) (fun c_20 => ?_)
          · skip
            replace h := (if_pos c_20).symm.trans h
            exact B_205 cs1 u0 u1 u2 u4 h _ _ _ hP hD hS (lv_sub hl [1, 2, 3, 4] rfl)
          · skip
            replace h := (if_neg c_20).symm.trans h
            refine lv_iload_n hx hb dX1_two_192 rfl (lv_at hl 2 rfl) ?_
            refine lv_lload hx hb dX1_two_193 (lv_at hl 4 rfl) ?_
            replace h := ob h; obtain ⟨v_21, hv_21, h⟩ := h
            refine ccSI (As := [.int u1, .long u4]) hx hb hml hts hown hK hP hD hS hA hZ (sc_X1_hasResult l dC dI cB cI cJ cZ cS cO b K V fz F cs1 u1 u4 v_21 hv_21) (cw_X1_X1_hasResult hts (fr := 0) (Nat.le_of_ble_eq_true rfl) (Nat.le_of_ble_eq_true rfl)) rfl hl.1 (Nat.le_of_ble_eq_true rfl) ⟨Nat.zero_le _, Nat.zero_le _⟩ dX1_two_195 (fun H locs hP hD hS => ?_)
            refine lv_if_eq (tgt := 205) hx hb dX1_two_198 (by decide) (fun c_22 => ?_) (fun c_22 => ?_)
            · skip
              replace h := (if_pos c_22).symm.trans h
              exact B_205 cs1 u0 u1 u2 u4 h _ _ _ hP hD hS (lv_sub hl [1, 2, 3, 4] rfl)
            · skip
              replace h := (if_neg c_22).symm.trans h
              refine lv_iconst (v := 1) hx hb dX1_two_201 (by decide) ?_
              refine lv_goto (tgt := 206) hx hb dX1_two_202 (by decide) ?_
              exact B_206 cs1 u0 u1 u2 u4 1 h _ _ _ hP hD hS (lv_sub hl [1, 2, 3, 4] rfl)
      · skip
        replace h := (if_pos c_18).symm.trans h
        exact B_94 cs1 u0 u1 u2 u4 u6 y0 h _ _ _ hP hD hS (lv_sub hl [1, 2, 3, 4, 5, 0] rfl)
  have B_59 : ∀ (cs1 : CS) (u0 : Nat) (u1 : Int32) (u2 : Int64) (u4 : Int64) (y0 : Int32), c_X1_two_b59 F cs1 u0 u1 u2 u4 y0 = some cs9 → ∀ (H : Heap) (locs : List Loc) (ls : Array Slot), va_P (dC, dI) vwCl (cW cB cI cJ cZ cS cO b cs1) H → va_D A (cW cB cI cJ cZ cS cO b cs1) → va_S A s.heap H locs → lv_has ls 10 [(0, .ref (b + u0)), (1, .int u1), (2, .long u2), (4, .long u4)] → W p l e (headSpec (wsOf yX1_two cX1_two 10 none) ({ frames := 1, cells := 0, slots := 0, locals := 60 * (1) } : Room)).room s m ([.ref (b + x0), .int x1] : List Value).toArray below meth c H locs 0 0 (MQ below (va_Qv (fun (_ : Unit) => True) (fun _ t_ => va_P (dC, dI) vwCl (cW cB cI cJ cZ cS cO b cs9) t_.heap ∧ va_D A (cW cB cI cJ cZ cS cO b cs9)) A) ([.ref (b + x0), .int x1] : List Value).toArray s 0 0 A) (F0 m 59 ls [.int y0]) := by
    intro cs1 u0 u1 u2 u4 y0 h H locs ls hP hD hS hl
    unfold c_X1_two_b59 at h
    refine lv_istore (lv' := [(6, .int y0), (0, .ref (b + u0)), (1, .int u1), (2, .long u2), (4, .long u4)]) hx hb dX1_two_59 hl (by decide) rfl (fun ls hl => ?_)
    refine lv_aload_n hx hb dX1_two_61 rfl (lv_at hl 1 rfl) ?_
    replace h := ob h; obtain ⟨v_23, hv_23, h⟩ := h
    refine fg_X1_49 hx hb hts hown hK hP hv_23 dX1_two_62 ?_
    refine lv_aload_n hx hb dX1_two_65 rfl (lv_at hl 1 rfl) ?_
    replace h := ob h; obtain ⟨v_24, hv_24, h⟩ := h
    refine fg_X1_59 hx hb hts hown hK hP hv_24 dX1_two_66 ?_
    refine lv_iconst (v := 1) hx hb dX1_two_69 (by decide) ?_
    refine lv_iadd hx hb dX1_two_70 ?_
    replace h := ob h; obtain ⟨v_25, hv_25, h⟩ := h
    refine ald1 hx hb hK hP rfl hv_25 dX1_two_71 ?_
    refine lv_if_ne (tgt := 79) hx hb dX1_two_72 (by decide) (fun c_26 => ?_) (fun c_26 => ?_)
    · skip
      replace h := (if_neg c_26).symm.trans h
      refine lv_iconst (v := 0) hx hb dX1_two_79 (by decide) ?_
      exact B_80 cs1 u0 u1 u2 u4 y0 0 h _ _ _ hP hD hS (lv_sub hl [1, 2, 3, 4, 0] rfl)
    · skip
      replace h := (if_pos c_26).symm.trans h
      refine lv_iconst (v := 1) hx hb dX1_two_75 (by decide) ?_
      refine lv_goto (tgt := 80) hx hb dX1_two_76 (by decide) ?_
      exact B_80 cs1 u0 u1 u2 u4 y0 1 h _ _ _ hP hD hS (lv_sub hl [1, 2, 3, 4, 0] rfl)
  have h := hf
  unfold c_X1_two at h
  refine lv_aload_n hx hb dX1_two_0 rfl (lv_at hl 0 rfl) ?_
  replace h := ob h; obtain ⟨v_27, hv_27, h⟩ := h
  refine fg_X1_59 hx hb hts hown hK hP hv_27 dX1_two_1 ?_
  refine lv_iconst (v := 2) hx hb dX1_two_4 (by decide) ?_
  refine lv_icmp_ge (tgt := 9) hx hb dX1_two_5 (by decide) (fun c_28 => ?_) (fun c_28 => ?_)
  · skip
    replace h := (if_pos c_28).symm.trans h
    refine lv_aload_n hx hb dX1_two_9 rfl (lv_at hl 0 rfl) ?_
    refine lv_dup hx hb dX1_two_10 rfl ?_
    replace h := ob h; obtain ⟨v_29, hv_29, h⟩ := h
    refine fg_X1_59 hx hb hts hown hK hP hv_29 dX1_two_11 ?_
    refine lv_iconst (v := 2) hx hb dX1_two_14 (by decide) ?_
    refine lv_isub hx hb dX1_two_15 ?_
    replace h := ob h; obtain ⟨cs_30, hv_30, h⟩ := h
    refine fp_X1_59 hx hb hts hown hK hP hD hS hv_30 dX1_two_16 (fun H locs hP hD hS => ?_)
    refine lv_aload_n hx hb dX1_two_19 rfl (lv_at hl 0 rfl) ?_
    replace h := ob h; obtain ⟨v_31, hv_31, h⟩ := h
    refine fg_X1_46 hx hb hts hown hK hP hv_31 dX1_two_20 ?_
    refine lv_aload_n hx hb dX1_two_23 rfl (lv_at hl 0 rfl) ?_
    replace h := ob h; obtain ⟨v_32, hv_32, h⟩ := h
    refine fg_X1_59 hx hb hts hown hK hP hv_32 dX1_two_24 ?_
    replace h := ob h; obtain ⟨v_33, hv_33, h⟩ := h
    refine ald2 hx hb hK hP rfl hv_33 dX1_two_27 ?_
    refine lv_lstore_n (lv' := [(2, .long v_33), (0, .ref (b + x0)), (1, .int x1)]) hx hb dX1_two_28 rfl hl (by decide) rfl (fun ls hl => ?_)
    refine lv_aload_n hx hb dX1_two_29 rfl (lv_at hl 1 rfl) ?_
    replace h := ob h; obtain ⟨v_34, hv_34, h⟩ := h
    refine fg_X1_46 hx hb hts hown hK hP hv_34 dX1_two_30 ?_
    refine lv_aload_n hx hb dX1_two_33 rfl (lv_at hl 1 rfl) ?_
    replace h := ob h; obtain ⟨v_35, hv_35, h⟩ := h
    refine fg_X1_59 hx hb hts hown hK hP hv_35 dX1_two_34 ?_
    refine lv_iconst (v := 1) hx hb dX1_two_37 (by decide) ?_
    refine lv_iadd hx hb dX1_two_38 ?_
    replace h := ob h; obtain ⟨v_36, hv_36, h⟩ := h
    refine ald2 hx hb hK hP rfl hv_36 dX1_two_39 ?_
    refine lv_lstore (lv' := [(4, .long v_36), (2, .long v_33), (0, .ref (b + x0)), (1, .int x1)]) hx hb dX1_two_40 hl (by decide) rfl (fun ls hl => ?_)
    refine lv_aload_n hx hb dX1_two_42 rfl (lv_at hl 2 rfl) ?_
    replace h := ob h; obtain ⟨v_37, hv_37, h⟩ := h
    refine fg_X1_49 hx hb hts hown hK hP hv_37 dX1_two_43 ?_
    refine lv_aload_n hx hb dX1_two_46 rfl (lv_at hl 2 rfl) ?_
    replace h := ob h; obtain ⟨v_38, hv_38, h⟩ := h
    refine fg_X1_59 hx hb hts hown hK hP hv_38 dX1_two_47 ?_
    replace h := ob h; obtain ⟨v_39, hv_39, h⟩ := h
    refine ald1 hx hb hK hP rfl hv_39 dX1_two_50 ?_
    refine lv_if_ne (tgt := 58) hx hb dX1_two_51 (by decide) (fun c_40 => ?_) (fun c_40 => ?_)
    · skip
      replace h := (if_neg c_40).symm.trans h
      refine lv_iconst (v := 0) hx hb dX1_two_58 (by decide) ?_
      exact B_59 cs_30 x0 x1 v_33 v_36 0 h _ _ _ hP hD hS (lv_sub hl [2, 3, 1, 0] rfl)
    · skip
      replace h := (if_pos c_40).symm.trans h
      refine lv_iconst (v := 1) hx hb dX1_two_54 (by decide) ?_
      refine lv_goto (tgt := 59) hx hb dX1_two_55 (by decide) ?_
      exact B_59 cs_30 x0 x1 v_33 v_36 1 h _ _ _ hP hD hS (lv_sub hl [2, 3, 1, 0] rfl)
  · skip
    replace h := (if_neg c_28).symm.trans h
    have e1 := Option.some.inj h
    rw [e1] at hP hD
    exact W.vret hx hb hr (fun t_ ht hW => ⟨⟨(), rfl, trivial, by rw [ht]; exact hP, hD⟩, hS.F ht⟩) hS.2.2 dX1_two_8
theorem dX1_compute_0 : decode cX1_compute 0 = .ok (.aload_n 0, 1) := by decide +kernel
theorem dX1_compute_1 : decode cX1_compute 1 = .ok (.iconst 0, 1) := by decide +kernel
theorem dX1_compute_2 : decode cX1_compute 2 = .ok (.putfield 59, 3) := by decide +kernel
theorem dX1_compute_5 : decode cX1_compute 5 = .ok (.aload_n 0, 1) := by decide +kernel
theorem dX1_compute_6 : decode cX1_compute 6 = .ok (.iload_n 1, 1) := by decide +kernel
theorem dX1_compute_7 : decode cX1_compute 7 = .ok (.invokevirtual 62, 3) := by decide +kernel
theorem dX1_compute_10 : decode cX1_compute 10 = .ok (.ifCond .ne 5, 3) := by decide +kernel
theorem dX1_compute_13 : decode cX1_compute 13 = .ok (.iconst 0, 1) := by decide +kernel
theorem dX1_compute_14 : decode cX1_compute 14 = .ok (.ireturn, 1) := by decide +kernel
theorem dX1_compute_15 : decode cX1_compute 15 = .ok (.aload_n 0, 1) := by decide +kernel
theorem dX1_compute_16 : decode cX1_compute 16 = .ok (.getfield 24, 3) := by decide +kernel
theorem dX1_compute_19 : decode cX1_compute 19 = .ok (.iload_n 1, 1) := by decide +kernel
theorem dX1_compute_20 : decode cX1_compute 20 = .ok (.iaload, 1) := by decide +kernel
theorem dX1_compute_21 : decode cX1_compute 21 = .ok (.istore 4, 2) := by decide +kernel
theorem dX1_compute_23 : decode cX1_compute 23 = .ok (.iload 4, 2) := by decide +kernel
theorem dX1_compute_25 : decode cX1_compute 25 = .ok (.iload_n 1, 1) := by decide +kernel
theorem dX1_compute_26 : decode cX1_compute 26 = .ok (.if_icmp .gt 384, 3) := by decide +kernel
theorem dX1_compute_29 : decode cX1_compute 29 = .ok (.aload_n 0, 1) := by decide +kernel
theorem dX1_compute_30 : decode cX1_compute 30 = .ok (.getfield 37, 3) := by decide +kernel
theorem dX1_compute_33 : decode cX1_compute 33 = .ok (.iload 4, 2) := by decide +kernel
theorem dX1_compute_35 : decode cX1_compute 35 = .ok (.iaload, 1) := by decide +kernel
theorem dX1_compute_36 : decode cX1_compute 36 = .ok (.iload 4, 2) := by decide +kernel
theorem dX1_compute_38 : decode cX1_compute 38 = .ok (.if_icmp .le 23, 3) := by decide +kernel
theorem dX1_compute_41 : decode cX1_compute 41 = .ok (.aload_n 0, 1) := by decide +kernel
theorem dX1_compute_42 : decode cX1_compute 42 = .ok (.getfield 37, 3) := by decide +kernel
theorem dX1_compute_45 : decode cX1_compute 45 = .ok (.iload 4, 2) := by decide +kernel
theorem dX1_compute_47 : decode cX1_compute 47 = .ok (.iaload, 1) := by decide +kernel
theorem dX1_compute_48 : decode cX1_compute 48 = .ok (.iload_n 1, 1) := by decide +kernel
theorem dX1_compute_49 : decode cX1_compute 49 = .ok (.if_icmp .gt 12, 3) := by decide +kernel
theorem dX1_compute_52 : decode cX1_compute 52 = .ok (.aload_n 0, 1) := by decide +kernel
theorem dX1_compute_53 : decode cX1_compute 53 = .ok (.getfield 37, 3) := by decide +kernel
theorem dX1_compute_56 : decode cX1_compute 56 = .ok (.iload 4, 2) := by decide +kernel
theorem dX1_compute_58 : decode cX1_compute 58 = .ok (.iaload, 1) := by decide +kernel
theorem dX1_compute_59 : decode cX1_compute 59 = .ok (.istore 4, 2) := by decide +kernel
theorem dX1_compute_61 : decode cX1_compute 61 = .ok (.aload_n 0, 1) := by decide +kernel
theorem dX1_compute_62 : decode cX1_compute 62 = .ok (.getfield 15, 3) := by decide +kernel
theorem dX1_compute_65 : decode cX1_compute 65 = .ok (.iload 4, 2) := by decide +kernel
theorem dX1_compute_67 : decode cX1_compute 67 = .ok (.iaload, 1) := by decide +kernel
theorem dX1_compute_68 : decode cX1_compute 68 = .ok (.tableswitch 325 19 61 #[285, 325, 325, 325, 325, 271, 271, 221, 292, 325, 325, 203, 212, 230, 230, 230, 230, 325, 325, 325, 230, 188, 325, 325, 325, 325, 325, 325, 325, 325, 325, 325, 325, 325, 325, 325, 325, 325, 325, 271, 271, 292, 230], 188) := by decide +kernel
theorem dX1_compute_256 : decode cX1_compute 256 = .ok (.aload_n 0, 1) := by decide +kernel
theorem dX1_compute_257 : decode cX1_compute 257 = .ok (.aload_n 0, 1) := by decide +kernel
theorem dX1_compute_258 : decode cX1_compute 258 = .ok (.getfield 30, 3) := by decide +kernel
theorem dX1_compute_261 : decode cX1_compute 261 = .ok (.iload 4, 2) := by decide +kernel
theorem dX1_compute_263 : decode cX1_compute 263 = .ok (.laload, 1) := by decide +kernel
theorem dX1_compute_264 : decode cX1_compute 264 = .ok (.iconst 0, 1) := by decide +kernel
theorem dX1_compute_265 : decode cX1_compute 265 = .ok (.invokevirtual 66, 3) := by decide +kernel
theorem dX1_compute_268 : decode cX1_compute 268 = .ok (.goto 136, 3) := by decide +kernel
theorem dX1_compute_271 : decode cX1_compute 271 = .ok (.aload_n 0, 1) := by decide +kernel
theorem dX1_compute_272 : decode cX1_compute 272 = .ok (.lconst 1, 1) := by decide +kernel
theorem dX1_compute_273 : decode cX1_compute 273 = .ok (.iconst 0, 1) := by decide +kernel
theorem dX1_compute_274 : decode cX1_compute 274 = .ok (.invokevirtual 66, 3) := by decide +kernel
theorem dX1_compute_277 : decode cX1_compute 277 = .ok (.goto 127, 3) := by decide +kernel
theorem dX1_compute_280 : decode cX1_compute 280 = .ok (.aload_n 0, 1) := by decide +kernel
theorem dX1_compute_281 : decode cX1_compute 281 = .ok (.lconst 0, 1) := by decide +kernel
theorem dX1_compute_282 : decode cX1_compute 282 = .ok (.iconst 0, 1) := by decide +kernel
theorem dX1_compute_283 : decode cX1_compute 283 = .ok (.invokevirtual 66, 3) := by decide +kernel
theorem dX1_compute_286 : decode cX1_compute 286 = .ok (.goto 118, 3) := by decide +kernel
theorem dX1_compute_289 : decode cX1_compute 289 = .ok (.aload_n 0, 1) := by decide +kernel
theorem dX1_compute_290 : decode cX1_compute 290 = .ok (.lconst 0, 1) := by decide +kernel
theorem dX1_compute_291 : decode cX1_compute 291 = .ok (.iconst 1, 1) := by decide +kernel
theorem dX1_compute_292 : decode cX1_compute 292 = .ok (.invokevirtual 66, 3) := by decide +kernel
theorem dX1_compute_295 : decode cX1_compute 295 = .ok (.goto 109, 3) := by decide +kernel
theorem dX1_compute_298 : decode cX1_compute 298 = .ok (.aload_n 0, 1) := by decide +kernel
theorem dX1_compute_299 : decode cX1_compute 299 = .ok (.aload_n 2, 1) := by decide +kernel
theorem dX1_compute_300 : decode cX1_compute 300 = .ok (.iload_n 3, 1) := by decide +kernel
theorem dX1_compute_301 : decode cX1_compute 301 = .ok (.aload_n 0, 1) := by decide +kernel
theorem dX1_compute_302 : decode cX1_compute 302 = .ok (.getfield 40, 3) := by decide +kernel
theorem dX1_compute_305 : decode cX1_compute 305 = .ok (.iload 4, 2) := by decide +kernel
theorem dX1_compute_307 : decode cX1_compute 307 = .ok (.iaload, 1) := by decide +kernel
theorem dX1_compute_308 : decode cX1_compute 308 = .ok (.iadd, 1) := by decide +kernel
theorem dX1_compute_309 : decode cX1_compute 309 = .ok (.invokevirtual 70, 3) := by decide +kernel
theorem dX1_compute_312 : decode cX1_compute 312 = .ok (.aload_n 2, 1) := by decide +kernel
theorem dX1_compute_313 : decode cX1_compute 313 = .ok (.iload_n 3, 1) := by decide +kernel
theorem dX1_compute_314 : decode cX1_compute 314 = .ok (.aload_n 0, 1) := by decide +kernel
theorem dX1_compute_315 : decode cX1_compute 315 = .ok (.getfield 40, 3) := by decide +kernel
theorem dX1_compute_318 : decode cX1_compute 318 = .ok (.iload 4, 2) := by decide +kernel
theorem dX1_compute_320 : decode cX1_compute 320 = .ok (.iaload, 1) := by decide +kernel
theorem dX1_compute_321 : decode cX1_compute 321 = .ok (.iadd, 1) := by decide +kernel
theorem dX1_compute_322 : decode cX1_compute 322 = .ok (.invokevirtual 76, 3) := by decide +kernel
theorem dX1_compute_325 : decode cX1_compute 325 = .ok (.ifCond .eq 7, 3) := by decide +kernel
theorem dX1_compute_328 : decode cX1_compute 328 = .ok (.iconst 1, 1) := by decide +kernel
theorem dX1_compute_329 : decode cX1_compute 329 = .ok (.goto 4, 3) := by decide +kernel
theorem dX1_compute_332 : decode cX1_compute 332 = .ok (.iconst 0, 1) := by decide +kernel
theorem dX1_compute_333 : decode cX1_compute 333 = .ok (.invokevirtual 66, 3) := by decide +kernel
theorem dX1_compute_336 : decode cX1_compute 336 = .ok (.goto 68, 3) := by decide +kernel
theorem dX1_compute_339 : decode cX1_compute 339 = .ok (.aload_n 0, 1) := by decide +kernel
theorem dX1_compute_340 : decode cX1_compute 340 = .ok (.aload_n 0, 1) := by decide +kernel
theorem dX1_compute_341 : decode cX1_compute 341 = .ok (.getfield 15, 3) := by decide +kernel
theorem dX1_compute_344 : decode cX1_compute 344 = .ok (.iload 4, 2) := by decide +kernel
theorem dX1_compute_346 : decode cX1_compute 346 = .ok (.iaload, 1) := by decide +kernel
theorem dX1_compute_347 : decode cX1_compute 347 = .ok (.invokevirtual 79, 3) := by decide +kernel
theorem dX1_compute_350 : decode cX1_compute 350 = .ok (.goto 54, 3) := by decide +kernel
theorem dX1_compute_353 : decode cX1_compute 353 = .ok (.aload_n 0, 1) := by decide +kernel
theorem dX1_compute_354 : decode cX1_compute 354 = .ok (.invokevirtual 83, 3) := by decide +kernel
theorem dX1_compute_357 : decode cX1_compute 357 = .ok (.goto 47, 3) := by decide +kernel
theorem dX1_compute_360 : decode cX1_compute 360 = .ok (.aload_n 0, 1) := by decide +kernel
theorem dX1_compute_361 : decode cX1_compute 361 = .ok (.aload_n 0, 1) := by decide +kernel
theorem dX1_compute_362 : decode cX1_compute 362 = .ok (.getfield 27, 3) := by decide +kernel
theorem dX1_compute_365 : decode cX1_compute 365 = .ok (.iload 4, 2) := by decide +kernel
theorem dX1_compute_367 : decode cX1_compute 367 = .ok (.iaload, 1) := by decide +kernel
theorem dX1_compute_368 : decode cX1_compute 368 = .ok (.iconst 1, 1) := by decide +kernel
theorem dX1_compute_369 : decode cX1_compute 369 = .ok (.isub, 1) := by decide +kernel
theorem dX1_compute_370 : decode cX1_compute 370 = .ok (.aload_n 0, 1) := by decide +kernel
theorem dX1_compute_371 : decode cX1_compute 371 = .ok (.getfield 15, 3) := by decide +kernel
theorem dX1_compute_374 : decode cX1_compute 374 = .ok (.iload 4, 2) := by decide +kernel
theorem dX1_compute_376 : decode cX1_compute 376 = .ok (.iaload, 1) := by decide +kernel
theorem dX1_compute_377 : decode cX1_compute 377 = .ok (.bipush 27, 2) := by decide +kernel
theorem dX1_compute_379 : decode cX1_compute 379 = .ok (.if_icmp .ne 7, 3) := by decide +kernel
theorem dX1_compute_382 : decode cX1_compute 382 = .ok (.iconst 1, 1) := by decide +kernel
theorem dX1_compute_383 : decode cX1_compute 383 = .ok (.goto 4, 3) := by decide +kernel
theorem dX1_compute_386 : decode cX1_compute 386 = .ok (.iconst 0, 1) := by decide +kernel
theorem dX1_compute_387 : decode cX1_compute 387 = .ok (.invokevirtual 86, 3) := by decide +kernel
theorem dX1_compute_390 : decode cX1_compute 390 = .ok (.goto 14, 3) := by decide +kernel
theorem dX1_compute_393 : decode cX1_compute 393 = .ok (.aload_n 0, 1) := by decide +kernel
theorem dX1_compute_394 : decode cX1_compute 394 = .ok (.aload_n 0, 1) := by decide +kernel
theorem dX1_compute_395 : decode cX1_compute 395 = .ok (.getfield 15, 3) := by decide +kernel
theorem dX1_compute_398 : decode cX1_compute 398 = .ok (.iload 4, 2) := by decide +kernel
theorem dX1_compute_400 : decode cX1_compute 400 = .ok (.iaload, 1) := by decide +kernel
theorem dX1_compute_401 : decode cX1_compute 401 = .ok (.invokevirtual 90, 3) := by decide +kernel
theorem dX1_compute_404 : decode cX1_compute 404 = .ok (.iinc 4 1, 3) := by decide +kernel
theorem dX1_compute_407 : decode cX1_compute 407 = .ok (.goto (-384), 3) := by decide +kernel
theorem dX1_compute_410 : decode cX1_compute 410 = .ok (.aload_n 0, 1) := by decide +kernel
theorem dX1_compute_411 : decode cX1_compute 411 = .ok (.getfield 59, 3) := by decide +kernel
theorem dX1_compute_414 : decode cX1_compute 414 = .ok (.iconst 1, 1) := by decide +kernel
theorem dX1_compute_415 : decode cX1_compute 415 = .ok (.if_icmp .ne 27, 3) := by decide +kernel
theorem dX1_compute_418 : decode cX1_compute 418 = .ok (.aload_n 0, 1) := by decide +kernel
theorem dX1_compute_419 : decode cX1_compute 419 = .ok (.getfield 49, 3) := by decide +kernel
theorem dX1_compute_422 : decode cX1_compute 422 = .ok (.iconst 0, 1) := by decide +kernel
theorem dX1_compute_423 : decode cX1_compute 423 = .ok (.baload, 1) := by decide +kernel
theorem dX1_compute_424 : decode cX1_compute 424 = .ok (.ifCond .ne 18, 3) := by decide +kernel
theorem dX1_compute_427 : decode cX1_compute 427 = .ok (.aload_n 0, 1) := by decide +kernel
theorem dX1_compute_428 : decode cX1_compute 428 = .ok (.getfield 46, 3) := by decide +kernel
theorem dX1_compute_431 : decode cX1_compute 431 = .ok (.iconst 0, 1) := by decide +kernel
theorem dX1_compute_432 : decode cX1_compute 432 = .ok (.laload, 1) := by decide +kernel
theorem dX1_compute_433 : decode cX1_compute 433 = .ok (.lconst 0, 1) := by decide +kernel
theorem dX1_compute_434 : decode cX1_compute 434 = .ok (.lcmp, 1) := by decide +kernel
theorem dX1_compute_435 : decode cX1_compute 435 = .ok (.ifCond .eq 7, 3) := by decide +kernel
theorem dX1_compute_438 : decode cX1_compute 438 = .ok (.iconst 1, 1) := by decide +kernel
theorem dX1_compute_439 : decode cX1_compute 439 = .ok (.goto 4, 3) := by decide +kernel
theorem dX1_compute_442 : decode cX1_compute 442 = .ok (.iconst 0, 1) := by decide +kernel
theorem dX1_compute_443 : decode cX1_compute 443 = .ok (.ireturn, 1) := by decide +kernel
def c_X1_compute_b443 (F : Nat) (cs1 : CS) (y0 : Int32) : Option (CS × Int32) := Option.bind (ckZ y0) fun _ => some (cs1, y0)
def c_X1_compute_b442 (F : Nat) (cs1 : CS) : Option (CS × Int32) := c_X1_compute_b443 F cs1 0
def c_X1_compute_b404 (F : Nat) (rc23 : CS → Nat → Int32 → Nat → Int32 → Int32 → Option (CS × Int32)) (cs1 : CS) (u0 : Nat) (u1 : Int32) (u2 : Nat) (u3 : Int32) (u4 : Int32) : Option (CS × Int32) := rc23 cs1 u0 u1 u2 u3 (u4 + 1)
def c_X1_compute_b333 (F : Nat) (rc23 : CS → Nat → Int32 → Nat → Int32 → Int32 → Option (CS × Int32)) (cs1 : CS) (u0 : Nat) (u1 : Int32) (u2 : Nat) (u3 : Int32) (u4 : Int32) (y0 : Int32) (y1 : Int64) (y2 : Nat) : Option (CS × Int32) := Option.bind (ckE cs1 2 y2) fun _ => Option.bind (c_X1_push F cs1 y2 y1 y0) fun cs_2 => c_X1_compute_b404 F rc23 cs_2 u0 u1 u2 u3 u4
def c_X1_compute_b298 (F : Nat) (rc23 : CS → Nat → Int32 → Nat → Int32 → Int32 → Option (CS × Int32)) (cs1 : CS) (u0 : Nat) (u1 : Int32) (u2 : Nat) (u3 : Int32) (u4 : Int32) : Option (CS × Int32) := Option.bind (gA cs1 2 72 u0) fun v_4 => Option.bind (rA cs1 72 u0 v_4 u4) fun v_5 => Option.bind (ckE cs1 9 u2) fun _ => Option.bind (c_X8_valueOf F cs1 u2 (u3 + v_5)) fun v_6 => Option.bind (gA cs1 2 72 u0) fun v_8 => Option.bind (rA cs1 72 u0 v_8 u4) fun v_9 => Option.bind (ckE cs1 9 u2) fun _ => Option.bind (c_X8_isBlank F cs1 u2 (u3 + v_9)) fun v_10 => if v_10 = 0 then (c_X1_compute_b333 F rc23 cs1 u0 u1 u2 u3 u4 0 v_6 u0) else (c_X1_compute_b333 F rc23 cs1 u0 u1 u2 u3 u4 1 v_6 u0)
def c_X1_compute_b387 (F : Nat) (rc23 : CS → Nat → Int32 → Nat → Int32 → Int32 → Option (CS × Int32)) (cs1 : CS) (u0 : Nat) (u1 : Int32) (u2 : Nat) (u3 : Int32) (u4 : Int32) (y0 : Int32) (y1 : Int32) (y2 : Nat) : Option (CS × Int32) := Option.bind (ckE cs1 2 y2) fun _ => Option.bind (c_X1_search F cs1 y2 y1 y0) fun cs_13 => c_X1_compute_b404 F rc23 cs_13 u0 u1 u2 u3 u4
def c_X1_compute_b360 (F : Nat) (rc23 : CS → Nat → Int32 → Nat → Int32 → Int32 → Option (CS × Int32)) (cs1 : CS) (u0 : Nat) (u1 : Int32) (u2 : Nat) (u3 : Int32) (u4 : Int32) : Option (CS × Int32) := Option.bind (gA cs1 2 68 u0) fun v_15 => Option.bind (rA cs1 68 u0 v_15 u4) fun v_16 => Option.bind (gA cs1 2 65 u0) fun v_17 => Option.bind (rA cs1 65 u0 v_17 u4) fun v_18 => if v_18 = 27 then (c_X1_compute_b387 F rc23 cs1 u0 u1 u2 u3 u4 1 (v_16 - 1) u0) else (c_X1_compute_b387 F rc23 cs1 u0 u1 u2 u3 u4 0 (v_16 - 1) u0)
def c_X1_compute_b339 (F : Nat) (rc23 : CS → Nat → Int32 → Nat → Int32 → Int32 → Option (CS × Int32)) (cs1 : CS) (u0 : Nat) (u1 : Int32) (u2 : Nat) (u3 : Int32) (u4 : Int32) : Option (CS × Int32) := Option.bind (gA cs1 2 65 u0) fun v_20 => Option.bind (rA cs1 65 u0 v_20 u4) fun v_21 => Option.bind (ckE cs1 2 u0) fun _ => Option.bind (c_X1_one F cs1 u0 v_21) fun cs_22 => c_X1_compute_b404 F rc23 cs_22 u0 u1 u2 u3 u4
def c_X1_compute_b393 (F : Nat) (rc23 : CS → Nat → Int32 → Nat → Int32 → Int32 → Option (CS × Int32)) (cs1 : CS) (u0 : Nat) (u1 : Int32) (u2 : Nat) (u3 : Int32) (u4 : Int32) : Option (CS × Int32) := Option.bind (gA cs1 2 65 u0) fun v_24 => Option.bind (rA cs1 65 u0 v_24 u4) fun v_25 => Option.bind (ckE cs1 2 u0) fun _ => Option.bind (c_X1_two F cs1 u0 v_25) fun cs_26 => c_X1_compute_b404 F rc23 cs_26 u0 u1 u2 u3 u4
def c_X1_compute_b61 (F : Nat) (rc23 : CS → Nat → Int32 → Nat → Int32 → Int32 → Option (CS × Int32)) (cs1 : CS) (u0 : Nat) (u1 : Int32) (u2 : Nat) (u3 : Int32) (u4 : Int32) : Option (CS × Int32) := Option.bind (gA cs1 2 65 u0) fun v_28 => Option.bind (rA cs1 65 u0 v_28 u4) fun v_29 => if v_29 = 19 then (Option.bind (ckE cs1 2 u0) fun _ => Option.bind (c_X1_choose F cs1 u0) fun cs_31 => c_X1_compute_b404 F rc23 cs_31 u0 u1 u2 u3 u4) else (if v_29 = 24 then (c_X1_compute_b339 F rc23 cs1 u0 u1 u2 u3 u4) else (if v_29 = 25 then (c_X1_compute_b339 F rc23 cs1 u0 u1 u2 u3 u4) else (if v_29 = 26 then (Option.bind (ckE cs1 2 u0) fun _ => Option.bind (c_X1_push F cs1 u0 0 1) fun cs_36 => c_X1_compute_b404 F rc23 cs_36 u0 u1 u2 u3 u4) else (if v_29 = 27 then (c_X1_compute_b360 F rc23 cs1 u0 u1 u2 u3 u4) else (if v_29 = 30 then (Option.bind (ckE cs1 2 u0) fun _ => Option.bind (c_X1_push F cs1 u0 1 0) fun cs_40 => c_X1_compute_b404 F rc23 cs_40 u0 u1 u2 u3 u4) else (if v_29 = 31 then (Option.bind (ckE cs1 2 u0) fun _ => Option.bind (c_X1_push F cs1 u0 0 0) fun cs_43 => c_X1_compute_b404 F rc23 cs_43 u0 u1 u2 u3 u4) else (if v_29 = 32 then (c_X1_compute_b298 F rc23 cs1 u0 u1 u2 u3 u4) else (if v_29 = 33 then (c_X1_compute_b298 F rc23 cs1 u0 u1 u2 u3 u4) else (if v_29 = 34 then (c_X1_compute_b298 F rc23 cs1 u0 u1 u2 u3 u4) else (if v_29 = 35 then (c_X1_compute_b298 F rc23 cs1 u0 u1 u2 u3 u4) else (if v_29 = 39 then (c_X1_compute_b298 F rc23 cs1 u0 u1 u2 u3 u4) else (if v_29 = 40 then (Option.bind (gA cs1 2 69 u0) fun v_51 => Option.bind (rB cs1 69 u0 v_51 u4) fun v_52 => Option.bind (ckE cs1 2 u0) fun _ => Option.bind (c_X1_push F cs1 u0 v_52 0) fun cs_53 => c_X1_compute_b404 F rc23 cs_53 u0 u1 u2 u3 u4) else (if v_29 = 58 then (c_X1_compute_b339 F rc23 cs1 u0 u1 u2 u3 u4) else (if v_29 = 59 then (c_X1_compute_b339 F rc23 cs1 u0 u1 u2 u3 u4) else (if v_29 = 60 then (c_X1_compute_b360 F rc23 cs1 u0 u1 u2 u3 u4) else (if v_29 = 61 then (c_X1_compute_b298 F rc23 cs1 u0 u1 u2 u3 u4) else (c_X1_compute_b393 F rc23 cs1 u0 u1 u2 u3 u4)))))))))))))))))
def c_X1_compute_L23 (F : Nat) : Nat → CS → Nat → Int32 → Nat → Int32 → Int32 → Option (CS × Int32)
  | 0, _, _, _, _, _, _ => none
  | lf_23 + 1, cs1, u0, u1, u2, u3, u4 => if u1 < u4 then (Option.bind (gI cs1 2 76 u0) fun v_60 => if v_60 = 1 then (Option.bind (gA cs1 2 75 u0) fun v_62 => Option.bind (rA cs1 75 u0 v_62 0) fun v_63 => if v_63 = 0 then (Option.bind (gA cs1 2 74 u0) fun v_65 => Option.bind (rB cs1 74 u0 v_65 0) fun v_66 => if v_66 = 0 then (c_X1_compute_b442 F cs1) else (c_X1_compute_b443 F cs1 1)) else (c_X1_compute_b442 F cs1)) else (c_X1_compute_b442 F cs1)) else (Option.bind (gA cs1 2 71 u0) fun v_68 => Option.bind (rA cs1 71 u0 v_68 u4) fun v_69 => if v_69 ≤ u4 then (c_X1_compute_b61 F (c_X1_compute_L23 F lf_23) cs1 u0 u1 u2 u3 u4) else (Option.bind (gA cs1 2 71 u0) fun v_71 => Option.bind (rA cs1 71 u0 v_71 u4) fun v_72 => if u1 < v_72 then (c_X1_compute_b61 F (c_X1_compute_L23 F lf_23) cs1 u0 u1 u2 u3 u4) else (Option.bind (gA cs1 2 71 u0) fun v_74 => Option.bind (rA cs1 71 u0 v_74 u4) fun v_75 => c_X1_compute_b61 F (c_X1_compute_L23 F lf_23) cs1 u0 u1 u2 u3 v_75)))
def c_X1_compute (F : Nat) (cs : CS) (x0 : Nat) (x1 : Int32) (x2 : Nat) (x3 : Int32) : Option (CS × Int32) := Option.bind (pI cs 2 76 x0 0) fun cs_76 => Option.bind (ckE cs_76 2 x0) fun _ => Option.bind (c_X1_has F cs_76 x0 x1) fun v_77 => if v_77 = 0 then (some (cs_76, 0)) else (Option.bind (gA cs_76 2 67 x0) fun v_80 => Option.bind (rA cs_76 67 x0 v_80 x1) fun v_81 => c_X1_compute_L23 F F cs_76 x0 x1 x2 x3 v_81)
theorem cw_X4_X1_compute {R : Room} {s : State} {args : Array Value} {y0 : MethodName} {c0 : ByteArray} {n0 : Nat} {r0 : Option FieldType} (hts : ∀ w ∈ wsOf y0 c0 n0 r0, w.before args s = true) {fr : Nat} (h1 : fr + 1 ≤ R.frames) (h2 : 8 + (5 + 11) + 60 * fr ≤ R.locals) : CallW R s args RX4 RX1 114 yX1_compute cX1_compute 5 (some .boolean) (wsOf yX1_compute cX1_compute 5 (some .boolean)) ({ frames := fr, cells := 0, slots := 0, locals := 60 * fr } : Room) 0 0 3 := cwV 3 hts (gd_all (in_V kw_1413 kw_1414 kw_1415 kw_189 kc_X1_compute)) rfl rfl rfl (by decide +kernel) ⟨h1, h2⟩
set_option maxHeartbeats 4000000 in
set_option maxRecDepth 100000 in
theorem sc_X1_compute (l : Launch) (dC : Nat → ClassId) (dI : Nat → Nat → Nat) (cB cI cJ cZ cS cO : ClassId) (b : Nat) (K V : Nat → Nat) (fz : Value) (F : Nat) (cs : CS) (x0 : Nat) (x1 : Int32) (x2 : Nat) (x3 : Int32) (cs9 : CS) (r9 : Int32) (hf : c_X1_compute F cs x0 x1 x2 x3 = some (cs9, r9)) : ocI l dC dI cB cI cJ cZ cS cO b K V fz yX1_compute (wsOf yX1_compute cX1_compute 5 (some .boolean)) (2) [.ref (b + x0), .int x1, .ref (b + x2), .int x3] cs cs9 r9 := by
  intro sz
  refine Met.ofW (cc := cX1_compute) (maxL := 5) (ret := (some .boolean)) (by decide) rfl ?_
  intro p e s m args below meth c s₁ B hml hv
  obtain ⟨rfl, hsz, hP, hK, hD0, hZ⟩ := hv
  have hx := B.exec
  have hb := B.bytes
  have hr := B.returns
  have hts := atoms_spec (ws := (wsOf yX1_compute cX1_compute 5 (some .boolean))) B.pre
  have hown : s.vm.findClass RX1 = some m.cls := findClass_of_methodNamed B.named
  have hlocks := B.notSynchronized
  subst hsz
  have hD := hD0.self (sz := s.heap.size)
  generalize hAe : va_A (cW cB cI cJ cZ cS cO b cs) s.heap.size = A at hD hZ ⊢
  have hA : ∀ q : Nat, s.heap.size ≤ q → A q := fun q h => by rw [← hAe]; exact Or.inr h
  have hS : va_S A s.heap s.heap [] := va_S.rf
  have hl := lv_entry ([.ref (b + x0), .int x1, .ref (b + x2), .int x3]) (n := 5) (Nat.le_of_ble_eq_true rfl)
  rw [lg_entry_eq]
  generalize (lg_sl ([.ref (b + x0), .int x1, .ref (b + x2), .int x3]) ++ List.replicate (5 - (lg_sl ([.ref (b + x0), .int x1, .ref (b + x2), .int x3])).length) Slot.unset).toArray = ls at hl ⊢
  have hl : lv_has ls 5 [(0, .ref (b + x0)), (1, .int x1), (2, .ref (b + x2)), (3, .int x3)] := hl
  have B_443 : ∀ (cs1 : CS) (y0 : Int32), c_X1_compute_b443 F cs1 y0 = some (cs9, r9) → ∀ (H : Heap) (locs : List Loc) (ls : Array Slot), va_P (dC, dI) vwCl (cW cB cI cJ cZ cS cO b cs1) H → va_D A (cW cB cI cJ cZ cS cO b cs1) → va_S A s.heap H locs → lv_has ls 5 [] → W p l e (headSpec (wsOf yX1_compute cX1_compute 5 (some .boolean)) ({ frames := 2, cells := 0, slots := 0, locals := 60 * (2) } : Room)).room s m ([.ref (b + x0), .int x1, .ref (b + x2), .int x3] : List Value).toArray below meth c H locs 0 0 (MQ below (va_Qi (fun (x : Int32) (_ : Unit) => x = r9) (fun _ t_ => va_P (dC, dI) vwCl (cW cB cI cJ cZ cS cO b cs9) t_.heap ∧ va_D A (cW cB cI cJ cZ cS cO b cs9)) A) ([.ref (b + x0), .int x1, .ref (b + x2), .int x3] : List Value).toArray s 0 0 A) (F0 m 443 ls [.int y0]) := by
    intro cs1 y0 h H locs ls hP hD hS hl
    unfold c_X1_compute_b443 at h
    replace h := ob h; obtain ⟨w_1, hw_1, h⟩ := h
    obtain ⟨e1, e2⟩ := Prod.mk.inj (Option.some.inj h)
    rw [e1] at hP hD
    exact W.zret (v := y0) hx hb hr (nzN (ckZ_some hw_1)) (fun t_ ht hW => ⟨⟨y0, (), rfl, e2, by rw [ht]; exact hP, hD⟩, hS.F ht⟩) hS.2.2 dX1_compute_443
  have B_442 : ∀ (cs1 : CS) , c_X1_compute_b442 F cs1 = some (cs9, r9) → ∀ (H : Heap) (locs : List Loc) (ls : Array Slot), va_P (dC, dI) vwCl (cW cB cI cJ cZ cS cO b cs1) H → va_D A (cW cB cI cJ cZ cS cO b cs1) → va_S A s.heap H locs → lv_has ls 5 [] → W p l e (headSpec (wsOf yX1_compute cX1_compute 5 (some .boolean)) ({ frames := 2, cells := 0, slots := 0, locals := 60 * (2) } : Room)).room s m ([.ref (b + x0), .int x1, .ref (b + x2), .int x3] : List Value).toArray below meth c H locs 0 0 (MQ below (va_Qi (fun (x : Int32) (_ : Unit) => x = r9) (fun _ t_ => va_P (dC, dI) vwCl (cW cB cI cJ cZ cS cO b cs9) t_.heap ∧ va_D A (cW cB cI cJ cZ cS cO b cs9)) A) ([.ref (b + x0), .int x1, .ref (b + x2), .int x3] : List Value).toArray s 0 0 A) (F0 m 442 ls []) := by
    intro cs1  h H locs ls hP hD hS hl
    unfold c_X1_compute_b442 at h
    refine lv_iconst (v := 0) hx hb dX1_compute_442 (by decide) ?_
    exact B_443 cs1 0 h _ _ _ hP hD hS (lv_sub hl [] rfl)
  have L_23 : ∀ (lf_23 : Nat), ∀ (cs1 : CS) (u0 : Nat) (u1 : Int32) (u2 : Nat) (u3 : Int32) (u4 : Int32), c_X1_compute_L23 F lf_23 cs1 u0 u1 u2 u3 u4 = some (cs9, r9) → ∀ (H : Heap) (locs : List Loc) (ls : Array Slot), va_P (dC, dI) vwCl (cW cB cI cJ cZ cS cO b cs1) H → va_D A (cW cB cI cJ cZ cS cO b cs1) → va_S A s.heap H locs → lv_has ls 5 [(0, .ref (b + u0)), (1, .int u1), (2, .ref (b + u2)), (3, .int u3), (4, .int u4)] → W p l e (headSpec (wsOf yX1_compute cX1_compute 5 (some .boolean)) ({ frames := 2, cells := 0, slots := 0, locals := 60 * (2) } : Room)).room s m ([.ref (b + x0), .int x1, .ref (b + x2), .int x3] : List Value).toArray below meth c H locs 0 0 (MQ below (va_Qi (fun (x : Int32) (_ : Unit) => x = r9) (fun _ t_ => va_P (dC, dI) vwCl (cW cB cI cJ cZ cS cO b cs9) t_.heap ∧ va_D A (cW cB cI cJ cZ cS cO b cs9)) A) ([.ref (b + x0), .int x1, .ref (b + x2), .int x3] : List Value).toArray s 0 0 A) (F0 m 23 ls []) := by
    intro lf_23
    induction lf_23 with
    | zero => intro cs1 u0 u1 u2 u3 u4 h; cases (show (none : Option (CS × Int32)) = _ from h)
    | succ lf_23 ih_23 =>
      have B_404 : ∀ (cs1 : CS) (u0 : Nat) (u1 : Int32) (u2 : Nat) (u3 : Int32) (u4 : Int32), c_X1_compute_b404 F (c_X1_compute_L23 F lf_23) cs1 u0 u1 u2 u3 u4 = some (cs9, r9) → ∀ (H : Heap) (locs : List Loc) (ls : Array Slot), va_P (dC, dI) vwCl (cW cB cI cJ cZ cS cO b cs1) H → va_D A (cW cB cI cJ cZ cS cO b cs1) → va_S A s.heap H locs → lv_has ls 5 [(0, .ref (b + u0)), (1, .int u1), (2, .ref (b + u2)), (3, .int u3), (4, .int u4)] → W p l e (headSpec (wsOf yX1_compute cX1_compute 5 (some .boolean)) ({ frames := 2, cells := 0, slots := 0, locals := 60 * (2) } : Room)).room s m ([.ref (b + x0), .int x1, .ref (b + x2), .int x3] : List Value).toArray below meth c H locs 0 0 (MQ below (va_Qi (fun (x : Int32) (_ : Unit) => x = r9) (fun _ t_ => va_P (dC, dI) vwCl (cW cB cI cJ cZ cS cO b cs9) t_.heap ∧ va_D A (cW cB cI cJ cZ cS cO b cs9)) A) ([.ref (b + x0), .int x1, .ref (b + x2), .int x3] : List Value).toArray s 0 0 A) (F0 m 404 ls []) := by
        intro cs1 u0 u1 u2 u3 u4 h H locs ls hP hD hS hl
        unfold c_X1_compute_b404 at h
        refine lv_iinc (v := u4 + 1) (lv' := [(4, .int (u4 + 1)), (0, .ref (b + u0)), (1, .int u1), (2, .ref (b + u2)), (3, .int u3)]) hx hb dX1_compute_404 hl (k := 4) rfl rfl (by decide) rfl (fun ls hl => ?_)
        refine lv_goto (tgt := 23) hx hb dX1_compute_407 (by decide) ?_
        exact ih_23 cs1 u0 u1 u2 u3 (u4 + 1) h _ _ _ hP hD hS (lv_sub hl [1, 2, 3, 4, 0] rfl)
      have B_333 : ∀ (cs1 : CS) (u0 : Nat) (u1 : Int32) (u2 : Nat) (u3 : Int32) (u4 : Int32) (y0 : Int32) (y1 : Int64) (y2 : Nat), c_X1_compute_b333 F (c_X1_compute_L23 F lf_23) cs1 u0 u1 u2 u3 u4 y0 y1 y2 = some (cs9, r9) → ∀ (H : Heap) (locs : List Loc) (ls : Array Slot), va_P (dC, dI) vwCl (cW cB cI cJ cZ cS cO b cs1) H → va_D A (cW cB cI cJ cZ cS cO b cs1) → va_S A s.heap H locs → lv_has ls 5 [(0, .ref (b + u0)), (1, .int u1), (2, .ref (b + u2)), (3, .int u3), (4, .int u4)] → W p l e (headSpec (wsOf yX1_compute cX1_compute 5 (some .boolean)) ({ frames := 2, cells := 0, slots := 0, locals := 60 * (2) } : Room)).room s m ([.ref (b + x0), .int x1, .ref (b + x2), .int x3] : List Value).toArray below meth c H locs 0 0 (MQ below (va_Qi (fun (x : Int32) (_ : Unit) => x = r9) (fun _ t_ => va_P (dC, dI) vwCl (cW cB cI cJ cZ cS cO b cs9) t_.heap ∧ va_D A (cW cB cI cJ cZ cS cO b cs9)) A) ([.ref (b + x0), .int x1, .ref (b + x2), .int x3] : List Value).toArray s 0 0 A) (F0 m 333 ls [.int y0, .long y1, .ref (b + y2)]) := by
        intro cs1 u0 u1 u2 u3 u4 y0 y1 y2 h H locs ls hP hD hS hl
        unfold c_X1_compute_b333 at h
        replace h := ob h; obtain ⟨w_3, hw_3, h⟩ := h
        replace h := ob h; obtain ⟨cs_2, hv_2, h⟩ := h
        refine ccV (As := [.long y1, .int y0]) hx hb hml hts hown hK hP hD hS hA hZ (X := 2) (by decide) rfl (ckE_some hw_3) (sc_X1_push l dC dI cB cI cJ cZ cS cO b K V fz F cs1 y2 y1 y0 cs_2 hv_2) (cw_X1_X1_push hts (fr := 0) (Nat.le_of_ble_eq_true rfl) (Nat.le_of_ble_eq_true rfl)) rfl hl.1 (Nat.le_of_ble_eq_true rfl) ⟨Nat.zero_le _, Nat.zero_le _⟩ dX1_compute_333 (fun H locs hP hD hS => ?_)
        refine lv_goto (tgt := 404) hx hb dX1_compute_336 (by decide) ?_
        exact B_404 cs_2 u0 u1 u2 u3 u4 h _ _ _ hP hD hS (lv_sub hl [0, 1, 2, 3, 4] rfl)
      have B_298 : ∀ (cs1 : CS) (u0 : Nat) (u1 : Int32) (u2 : Nat) (u3 : Int32) (u4 : Int32), c_X1_compute_b298 F (c_X1_compute_L23 F lf_23) cs1 u0 u1 u2 u3 u4 = some (cs9, r9) → ∀ (H : Heap) (locs : List Loc) (ls : Array Slot), va_P (dC, dI) vwCl (cW cB cI cJ cZ cS cO b cs1) H → va_D A (cW cB cI cJ cZ cS cO b cs1) → va_S A s.heap H locs → lv_has ls 5 [(0, .ref (b + u0)), (1, .int u1), (2, .ref (b + u2)), (3, .int u3), (4, .int u4)] → W p l e (headSpec (wsOf yX1_compute cX1_compute 5 (some .boolean)) ({ frames := 2, cells := 0, slots := 0, locals := 60 * (2) } : Room)).room s m ([.ref (b + x0), .int x1, .ref (b + x2), .int x3] : List Value).toArray below meth c H locs 0 0 (MQ below (va_Qi (fun (x : Int32) (_ : Unit) => x = r9) (fun _ t_ => va_P (dC, dI) vwCl (cW cB cI cJ cZ cS cO b cs9) t_.heap ∧ va_D A (cW cB cI cJ cZ cS cO b cs9)) A) ([.ref (b + x0), .int x1, .ref (b + x2), .int x3] : List Value).toArray s 0 0 A) (F0 m 298 ls []) := by
        intro cs1 u0 u1 u2 u3 u4 h H locs ls hP hD hS hl
        unfold c_X1_compute_b298 at h
        refine lv_aload_n hx hb dX1_compute_298 rfl (lv_at hl 0 rfl) ?_
        refine lv_aload_n hx hb dX1_compute_299 rfl (lv_at hl 2 rfl) ?_
        refine lv_iload_n hx hb dX1_compute_300 rfl (lv_at hl 3 rfl) ?_
        refine lv_aload_n hx hb dX1_compute_301 rfl (lv_at hl 0 rfl) ?_
        replace h := ob h; obtain ⟨v_4, hv_4, h⟩ := h
        refine fg_X1_40 hx hb hts hown hK hP hv_4 dX1_compute_302 ?_
        refine lv_iload hx hb dX1_compute_305 (lv_at hl 4 rfl) ?_
        replace h := ob h; obtain ⟨v_5, hv_5, h⟩ := h
        refine ald0 hx hb hK hP rfl hv_5 dX1_compute_307 ?_
        refine lv_iadd hx hb dX1_compute_308 ?_
        replace h := ob h; obtain ⟨w_7, hw_7, h⟩ := h
        replace h := ob h; obtain ⟨v_6, hv_6, h⟩ := h
        refine ccL (As := [.int (u3 + v_5)]) hx hb hml hts hown hK hP hD hS hA hZ (X := 9) (by decide) rfl (ckE_some hw_7) (sc_X8_valueOf l dC dI cB cI cJ cZ cS cO b K V fz F cs1 u2 (u3 + v_5) v_6 hv_6) (cw_X1_X8_valueOf hts (fr := 1) (Nat.le_of_ble_eq_true rfl) (Nat.le_of_ble_eq_true rfl)) rfl hl.1 (Nat.le_of_ble_eq_true rfl) ⟨Nat.zero_le _, Nat.zero_le _⟩ dX1_compute_309 (fun H locs hP hD hS => ?_)
        refine lv_aload_n hx hb dX1_compute_312 rfl (lv_at hl 2 rfl) ?_
        refine lv_iload_n hx hb dX1_compute_313 rfl (lv_at hl 3 rfl) ?_
        refine lv_aload_n hx hb dX1_compute_314 rfl (lv_at hl 0 rfl) ?_
        replace h := ob h; obtain ⟨v_8, hv_8, h⟩ := h
        refine fg_X1_40 hx hb hts hown hK hP hv_8 dX1_compute_315 ?_
        refine lv_iload hx hb dX1_compute_318 (lv_at hl 4 rfl) ?_
        replace h := ob h; obtain ⟨v_9, hv_9, h⟩ := h
        refine ald0 hx hb hK hP rfl hv_9 dX1_compute_320 ?_
        refine lv_iadd hx hb dX1_compute_321 ?_
        replace h := ob h; obtain ⟨w_11, hw_11, h⟩ := h
        replace h := ob h; obtain ⟨v_10, hv_10, h⟩ := h
        refine ccI (As := [.int (u3 + v_9)]) hx hb hml hts hown hK hP hD hS hA hZ (X := 9) (by decide) rfl (ckE_some hw_11) (sc_X8_isBlank l dC dI cB cI cJ cZ cS cO b K V fz F cs1 u2 (u3 + v_9) v_10 hv_10) (cw_X1_X8_isBlank hts (fr := 1) (Nat.le_of_ble_eq_true rfl) (Nat.le_of_ble_eq_true rfl)) rfl hl.1 (Nat.le_of_ble_eq_true rfl) ⟨Nat.zero_le _, Nat.zero_le _⟩ dX1_compute_322 (fun H locs hP hD hS => ?_)
        refine lv_if_eq (tgt := 332) hx hb dX1_compute_325 (by decide) (fun c_12 => ?_) (fun c_12 => ?_)
        · skip
          replace h := (if_pos c_12).symm.trans h
          refine lv_iconst (v := 0) hx hb dX1_compute_332 (by decide) ?_
          exact B_333 cs1 u0 u1 u2 u3 u4 0 v_6 u0 h _ _ _ hP hD hS (lv_sub hl [0, 1, 2, 3, 4] rfl)
        · skip
          replace h := (if_neg c_12).symm.trans h
          refine lv_iconst (v := 1) hx hb dX1_compute_328 (by decide) ?_
          refine lv_goto (tgt := 333) hx hb dX1_compute_329 (by decide) ?_
          exact B_333 cs1 u0 u1 u2 u3 u4 1 v_6 u0 h _ _ _ hP hD hS (lv_sub hl [0, 1, 2, 3, 4] rfl)
      have B_387 : ∀ (cs1 : CS) (u0 : Nat) (u1 : Int32) (u2 : Nat) (u3 : Int32) (u4 : Int32) (y0 : Int32) (y1 : Int32) (y2 : Nat), c_X1_compute_b387 F (c_X1_compute_L23 F lf_23) cs1 u0 u1 u2 u3 u4 y0 y1 y2 = some (cs9, r9) → ∀ (H : Heap) (locs : List Loc) (ls : Array Slot), va_P (dC, dI) vwCl (cW cB cI cJ cZ cS cO b cs1) H → va_D A (cW cB cI cJ cZ cS cO b cs1) → va_S A s.heap H locs → lv_has ls 5 [(0, .ref (b + u0)), (1, .int u1), (2, .ref (b + u2)), (3, .int u3), (4, .int u4)] → W p l e (headSpec (wsOf yX1_compute cX1_compute 5 (some .boolean)) ({ frames := 2, cells := 0, slots := 0, locals := 60 * (2) } : Room)).room s m ([.ref (b + x0), .int x1, .ref (b + x2), .int x3] : List Value).toArray below meth c H locs 0 0 (MQ below (va_Qi (fun (x : Int32) (_ : Unit) => x = r9) (fun _ t_ => va_P (dC, dI) vwCl (cW cB cI cJ cZ cS cO b cs9) t_.heap ∧ va_D A (cW cB cI cJ cZ cS cO b cs9)) A) ([.ref (b + x0), .int x1, .ref (b + x2), .int x3] : List Value).toArray s 0 0 A) (F0 m 387 ls [.int y0, .int y1, .ref (b + y2)]) := by
        intro cs1 u0 u1 u2 u3 u4 y0 y1 y2 h H locs ls hP hD hS hl
        unfold c_X1_compute_b387 at h
        replace h := ob h; obtain ⟨w_14, hw_14, h⟩ := h
        replace h := ob h; obtain ⟨cs_13, hv_13, h⟩ := h
        refine ccV (As := [.int y1, .int y0]) hx hb hml hts hown hK hP hD hS hA hZ (X := 2) (by decide) rfl (ckE_some hw_14) (sc_X1_search l dC dI cB cI cJ cZ cS cO b K V fz F cs1 y2 y1 y0 cs_13 hv_13) (cw_X1_X1_search hts (fr := 1) (Nat.le_of_ble_eq_true rfl) (Nat.le_of_ble_eq_true rfl)) rfl hl.1 (Nat.le_of_ble_eq_true rfl) ⟨Nat.zero_le _, Nat.zero_le _⟩ dX1_compute_387 (fun H locs hP hD hS => ?_)
        refine lv_goto (tgt := 404) hx hb dX1_compute_390 (by decide) ?_
        exact B_404 cs_13 u0 u1 u2 u3 u4 h _ _ _ hP hD hS (lv_sub hl [0, 1, 2, 3, 4] rfl)
      have B_360 : ∀ (cs1 : CS) (u0 : Nat) (u1 : Int32) (u2 : Nat) (u3 : Int32) (u4 : Int32), c_X1_compute_b360 F (c_X1_compute_L23 F lf_23) cs1 u0 u1 u2 u3 u4 = some (cs9, r9) → ∀ (H : Heap) (locs : List Loc) (ls : Array Slot), va_P (dC, dI) vwCl (cW cB cI cJ cZ cS cO b cs1) H → va_D A (cW cB cI cJ cZ cS cO b cs1) → va_S A s.heap H locs → lv_has ls 5 [(0, .ref (b + u0)), (1, .int u1), (2, .ref (b + u2)), (3, .int u3), (4, .int u4)] → W p l e (headSpec (wsOf yX1_compute cX1_compute 5 (some .boolean)) ({ frames := 2, cells := 0, slots := 0, locals := 60 * (2) } : Room)).room s m ([.ref (b + x0), .int x1, .ref (b + x2), .int x3] : List Value).toArray below meth c H locs 0 0 (MQ below (va_Qi (fun (x : Int32) (_ : Unit) => x = r9) (fun _ t_ => va_P (dC, dI) vwCl (cW cB cI cJ cZ cS cO b cs9) t_.heap ∧ va_D A (cW cB cI cJ cZ cS cO b cs9)) A) ([.ref (b + x0), .int x1, .ref (b + x2), .int x3] : List Value).toArray s 0 0 A) (F0 m 360 ls []) := by
        intro cs1 u0 u1 u2 u3 u4 h H locs ls hP hD hS hl
        unfold c_X1_compute_b360 at h
        refine lv_aload_n hx hb dX1_compute_360 rfl (lv_at hl 0 rfl) ?_
        refine lv_aload_n hx hb dX1_compute_361 rfl (lv_at hl 0 rfl) ?_
        replace h := ob h; obtain ⟨v_15, hv_15, h⟩ := h
        refine fg_X1_27 hx hb hts hown hK hP hv_15 dX1_compute_362 ?_
        refine lv_iload hx hb dX1_compute_365 (lv_at hl 4 rfl) ?_
        replace h := ob h; obtain ⟨v_16, hv_16, h⟩ := h
        refine ald0 hx hb hK hP rfl hv_16 dX1_compute_367 ?_
        refine lv_iconst (v := 1) hx hb dX1_compute_368 (by decide) ?_
        refine lv_isub hx hb dX1_compute_369 ?_
        refine lv_aload_n hx hb dX1_compute_370 rfl (lv_at hl 0 rfl) ?_
        replace h := ob h; obtain ⟨v_17, hv_17, h⟩ := h
        refine fg_X1_15 hx hb hts hown hK hP hv_17 dX1_compute_371 ?_
        refine lv_iload hx hb dX1_compute_374 (lv_at hl 4 rfl) ?_
        replace h := ob h; obtain ⟨v_18, hv_18, h⟩ := h
        refine ald0 hx hb hK hP rfl hv_18 dX1_compute_376 ?_
        refine lv_bipush (v := 27) hx hb dX1_compute_377 (by decide) ?_
        refine lv_icmp_ne (tgt := 386) hx hb dX1_compute_379 (by decide) (fun c_19 => ?_) (fun c_19 => ?_)
        · skip
          replace h := (if_neg c_19).symm.trans h
          refine lv_iconst (v := 0) hx hb dX1_compute_386 (by decide) ?_
          exact B_387 cs1 u0 u1 u2 u3 u4 0 (v_16 - 1) u0 h _ _ _ hP hD hS (lv_sub hl [0, 1, 2, 3, 4] rfl)
        · skip
          replace h := (if_pos c_19).symm.trans h
          refine lv_iconst (v := 1) hx hb dX1_compute_382 (by decide) ?_
          refine lv_goto (tgt := 387) hx hb dX1_compute_383 (by decide) ?_
          exact B_387 cs1 u0 u1 u2 u3 u4 1 (v_16 - 1) u0 h _ _ _ hP hD hS (lv_sub hl [0, 1, 2, 3, 4] rfl)
      have B_339 : ∀ (cs1 : CS) (u0 : Nat) (u1 : Int32) (u2 : Nat) (u3 : Int32) (u4 : Int32), c_X1_compute_b339 F (c_X1_compute_L23 F lf_23) cs1 u0 u1 u2 u3 u4 = some (cs9, r9) → ∀ (H : Heap) (locs : List Loc) (ls : Array Slot), va_P (dC, dI) vwCl (cW cB cI cJ cZ cS cO b cs1) H → va_D A (cW cB cI cJ cZ cS cO b cs1) → va_S A s.heap H locs → lv_has ls 5 [(0, .ref (b + u0)), (1, .int u1), (2, .ref (b + u2)), (3, .int u3), (4, .int u4)] → W p l e (headSpec (wsOf yX1_compute cX1_compute 5 (some .boolean)) ({ frames := 2, cells := 0, slots := 0, locals := 60 * (2) } : Room)).room s m ([.ref (b + x0), .int x1, .ref (b + x2), .int x3] : List Value).toArray below meth c H locs 0 0 (MQ below (va_Qi (fun (x : Int32) (_ : Unit) => x = r9) (fun _ t_ => va_P (dC, dI) vwCl (cW cB cI cJ cZ cS cO b cs9) t_.heap ∧ va_D A (cW cB cI cJ cZ cS cO b cs9)) A) ([.ref (b + x0), .int x1, .ref (b + x2), .int x3] : List Value).toArray s 0 0 A) (F0 m 339 ls []) := by
        intro cs1 u0 u1 u2 u3 u4 h H locs ls hP hD hS hl
        unfold c_X1_compute_b339 at h
        refine lv_aload_n hx hb dX1_compute_339 rfl (lv_at hl 0 rfl) ?_
        refine lv_aload_n hx hb dX1_compute_340 rfl (lv_at hl 0 rfl) ?_
        replace h := ob h; obtain ⟨v_20, hv_20, h⟩ := h
        refine fg_X1_15 hx hb hts hown hK hP hv_20 dX1_compute_341 ?_
        refine lv_iload hx hb dX1_compute_344 (lv_at hl 4 rfl) ?_
        replace h := ob h; obtain ⟨v_21, hv_21, h⟩ := h
        refine ald0 hx hb hK hP rfl hv_21 dX1_compute_346 ?_
        replace h := ob h; obtain ⟨w_23, hw_23, h⟩ := h
        replace h := ob h; obtain ⟨cs_22, hv_22, h⟩ := h
        refine ccV (As := [.int v_21]) hx hb hml hts hown hK hP hD hS hA hZ (X := 2) (by decide) rfl (ckE_some hw_23) (sc_X1_one l dC dI cB cI cJ cZ cS cO b K V fz F cs1 u0 v_21 cs_22 hv_22) (cw_X1_X1_one hts (fr := 1) (Nat.le_of_ble_eq_true rfl) (Nat.le_of_ble_eq_true rfl)) rfl hl.1 (Nat.le_of_ble_eq_true rfl) ⟨Nat.zero_le _, Nat.zero_le _⟩ dX1_compute_347 (fun H locs hP hD hS => ?_)
        refine lv_goto (tgt := 404) hx hb dX1_compute_350 (by decide) ?_
        exact B_404 cs_22 u0 u1 u2 u3 u4 h _ _ _ hP hD hS (lv_sub hl [0, 1, 2, 3, 4] rfl)
      have B_393 : ∀ (cs1 : CS) (u0 : Nat) (u1 : Int32) (u2 : Nat) (u3 : Int32) (u4 : Int32), c_X1_compute_b393 F (c_X1_compute_L23 F lf_23) cs1 u0 u1 u2 u3 u4 = some (cs9, r9) → ∀ (H : Heap) (locs : List Loc) (ls : Array Slot), va_P (dC, dI) vwCl (cW cB cI cJ cZ cS cO b cs1) H → va_D A (cW cB cI cJ cZ cS cO b cs1) → va_S A s.heap H locs → lv_has ls 5 [(0, .ref (b + u0)), (1, .int u1), (2, .ref (b + u2)), (3, .int u3), (4, .int u4)] → W p l e (headSpec (wsOf yX1_compute cX1_compute 5 (some .boolean)) ({ frames := 2, cells := 0, slots := 0, locals := 60 * (2) } : Room)).room s m ([.ref (b + x0), .int x1, .ref (b + x2), .int x3] : List Value).toArray below meth c H locs 0 0 (MQ below (va_Qi (fun (x : Int32) (_ : Unit) => x = r9) (fun _ t_ => va_P (dC, dI) vwCl (cW cB cI cJ cZ cS cO b cs9) t_.heap ∧ va_D A (cW cB cI cJ cZ cS cO b cs9)) A) ([.ref (b + x0), .int x1, .ref (b + x2), .int x3] : List Value).toArray s 0 0 A) (F0 m 393 ls []) := by
        intro cs1 u0 u1 u2 u3 u4 h H locs ls hP hD hS hl
        unfold c_X1_compute_b393 at h
        refine lv_aload_n hx hb dX1_compute_393 rfl (lv_at hl 0 rfl) ?_
        refine lv_aload_n hx hb dX1_compute_394 rfl (lv_at hl 0 rfl) ?_
        replace h := ob h; obtain ⟨v_24, hv_24, h⟩ := h
        refine fg_X1_15 hx hb hts hown hK hP hv_24 dX1_compute_395 ?_
        refine lv_iload hx hb dX1_compute_398 (lv_at hl 4 rfl) ?_
        replace h := ob h; obtain ⟨v_25, hv_25, h⟩ := h
        refine ald0 hx hb hK hP rfl hv_25 dX1_compute_400 ?_
        replace h := ob h; obtain ⟨w_27, hw_27, h⟩ := h
        replace h := ob h; obtain ⟨cs_26, hv_26, h⟩ := h
        refine ccV (As := [.int v_25]) hx hb hml hts hown hK hP hD hS hA hZ (X := 2) (by decide) rfl (ckE_some hw_27) (sc_X1_two l dC dI cB cI cJ cZ cS cO b K V fz F cs1 u0 v_25 cs_26 hv_26) (cw_X1_X1_two hts (fr := 1) (Nat.le_of_ble_eq_true rfl) (Nat.le_of_ble_eq_true rfl)) rfl hl.1 (Nat.le_of_ble_eq_true rfl) ⟨Nat.zero_le _, Nat.zero_le _⟩ dX1_compute_401 (fun H locs hP hD hS => ?_)
        exact B_404 cs_26 u0 u1 u2 u3 u4 h _ _ _ hP hD hS (lv_sub hl [0, 1, 2, 3, 4] rfl)
      have B_61 : ∀ (cs1 : CS) (u0 : Nat) (u1 : Int32) (u2 : Nat) (u3 : Int32) (u4 : Int32), c_X1_compute_b61 F (c_X1_compute_L23 F lf_23) cs1 u0 u1 u2 u3 u4 = some (cs9, r9) → ∀ (H : Heap) (locs : List Loc) (ls : Array Slot), va_P (dC, dI) vwCl (cW cB cI cJ cZ cS cO b cs1) H → va_D A (cW cB cI cJ cZ cS cO b cs1) → va_S A s.heap H locs → lv_has ls 5 [(0, .ref (b + u0)), (1, .int u1), (2, .ref (b + u2)), (3, .int u3), (4, .int u4)] → W p l e (headSpec (wsOf yX1_compute cX1_compute 5 (some .boolean)) ({ frames := 2, cells := 0, slots := 0, locals := 60 * (2) } : Room)).room s m ([.ref (b + x0), .int x1, .ref (b + x2), .int x3] : List Value).toArray below meth c H locs 0 0 (MQ below (va_Qi (fun (x : Int32) (_ : Unit) => x = r9) (fun _ t_ => va_P (dC, dI) vwCl (cW cB cI cJ cZ cS cO b cs9) t_.heap ∧ va_D A (cW cB cI cJ cZ cS cO b cs9)) A) ([.ref (b + x0), .int x1, .ref (b + x2), .int x3] : List Value).toArray s 0 0 A) (F0 m 61 ls []) := by
        intro cs1 u0 u1 u2 u3 u4 h H locs ls hP hD hS hl
        unfold c_X1_compute_b61 at h
        refine lv_aload_n hx hb dX1_compute_61 rfl (lv_at hl 0 rfl) ?_
        replace h := ob h; obtain ⟨v_28, hv_28, h⟩ := h
        refine fg_X1_15 hx hb hts hown hK hP hv_28 dX1_compute_62 ?_
        refine lv_iload hx hb dX1_compute_65 (lv_at hl 4 rfl) ?_
        replace h := ob h; obtain ⟨v_29, hv_29, h⟩ := h
        refine ald0 hx hb hK hP rfl hv_29 dX1_compute_67 ?_
        by_cases c_30 : v_29 = 19
        · skip
          replace h := (if_pos c_30).symm.trans h
          refine lv_tableIn (tgt := 353) (off := 285) hx hb dX1_compute_68 (by rw [c_30]; decide) (by rw [c_30]; decide) (by rw [c_30]; decide) (by decide) ?_
          refine lv_aload_n hx hb dX1_compute_353 rfl (lv_at hl 0 rfl) ?_
          replace h := ob h; obtain ⟨w_32, hw_32, h⟩ := h
          replace h := ob h; obtain ⟨cs_31, hv_31, h⟩ := h
          refine ccV (As := []) hx hb hml hts hown hK hP hD hS hA hZ (X := 2) (by decide) rfl (ckE_some hw_32) (sc_X1_choose l dC dI cB cI cJ cZ cS cO b K V fz F cs1 u0 cs_31 hv_31) (cw_X1_X1_choose hts (fr := 1) (Nat.le_of_ble_eq_true rfl) (Nat.le_of_ble_eq_true rfl)) rfl hl.1 (Nat.le_of_ble_eq_true rfl) ⟨Nat.zero_le _, Nat.zero_le _⟩ dX1_compute_354 (fun H locs hP hD hS => ?_)
          refine lv_goto (tgt := 404) hx hb dX1_compute_357 (by decide) ?_
          exact B_404 cs_31 u0 u1 u2 u3 u4 h _ _ _ hP hD hS (lv_sub hl [0, 1, 2, 3, 4] rfl)
        replace h := (if_neg c_30).symm.trans h
        by_cases c_33 : v_29 = 24
        · skip
          replace h := (if_pos c_33).symm.trans h
          refine lv_tableIn (tgt := 339) (off := 271) hx hb dX1_compute_68 (by rw [c_33]; decide) (by rw [c_33]; decide) (by rw [c_33]; decide) (by decide) ?_
          exact B_339 cs1 u0 u1 u2 u3 u4 h _ _ _ hP hD hS (lv_sub hl [0, 1, 2, 3, 4] rfl)
        replace h := (if_neg c_33).symm.trans h
        by_cases c_34 : v_29 = 25
        · skip
          replace h := (if_pos c_34).symm.trans h
          refine lv_tableIn (tgt := 339) (off := 271) hx hb dX1_compute_68 (by rw [c_34]; decide) (by rw [c_34]; decide) (by rw [c_34]; decide) (by decide) ?_
          exact B_339 cs1 u0 u1 u2 u3 u4 h _ _ _ hP hD hS (lv_sub hl [0, 1, 2, 3, 4] rfl)
        replace h := (if_neg c_34).symm.trans h
        by_cases c_35 : v_29 = 26
        · skip
          replace h := (if_pos c_35).symm.trans h
          refine lv_tableIn (tgt := 289) (off := 221) hx hb dX1_compute_68 (by rw [c_35]; decide) (by rw [c_35]; decide) (by rw [c_35]; decide) (by decide) ?_
          refine lv_aload_n hx hb dX1_compute_289 rfl (lv_at hl 0 rfl) ?_
          refine lv_lconst (v := 0) hx hb dX1_compute_290 (by decide) ?_
          refine lv_iconst (v := 1) hx hb dX1_compute_291 (by decide) ?_
          replace h := ob h; obtain ⟨w_37, hw_37, h⟩ := h
          replace h := ob h; obtain ⟨cs_36, hv_36, h⟩ := h
          refine ccV (As := [.long 0, .int 1]) hx hb hml hts hown hK hP hD hS hA hZ (X := 2) (by decide) rfl (ckE_some hw_37) (sc_X1_push l dC dI cB cI cJ cZ cS cO b K V fz F cs1 u0 0 1 cs_36 hv_36) (cw_X1_X1_push hts (fr := 0) (Nat.le_of_ble_eq_true rfl) (Nat.le_of_ble_eq_true rfl)) rfl hl.1 (Nat.le_of_ble_eq_true rfl) ⟨Nat.zero_le _, Nat.zero_le _⟩ dX1_compute_292 (fun H locs hP hD hS => ?_)
          refine lv_goto (tgt := 404) hx hb dX1_compute_295 (by decide) ?_
          exact B_404 cs_36 u0 u1 u2 u3 u4 h _ _ _ hP hD hS (lv_sub hl [0, 1, 2, 3, 4] rfl)
        replace h := (if_neg c_35).symm.trans h
        by_cases c_38 : v_29 = 27
        · skip
          replace h := (if_pos c_38).symm.trans h
          refine lv_tableIn (tgt := 360) (off := 292) hx hb dX1_compute_68 (by rw [c_38]; decide) (by rw [c_38]; decide) (by rw [c_38]; decide) (by decide) ?_
          exact B_360 cs1 u0 u1 u2 u3 u4 h _ _ _ hP hD hS (lv_sub hl [0, 1, 2, 3, 4] rfl)
        replace h := (if_neg c_38).symm.trans h
        by_cases c_39 : v_29 = 30
        · skip
          replace h := (if_pos c_39).symm.trans h
          refine lv_tableIn (tgt := 271) (off := 203) hx hb dX1_compute_68 (by rw [c_39]; decide) (by rw [c_39]; decide) (by rw [c_39]; decide) (by decide) ?_
          refine lv_aload_n hx hb dX1_compute_271 rfl (lv_at hl 0 rfl) ?_
          refine lv_lconst (v := 1) hx hb dX1_compute_272 (by decide) ?_
          refine lv_iconst (v := 0) hx hb dX1_compute_273 (by decide) ?_
          replace h := ob h; obtain ⟨w_41, hw_41, h⟩ := h
          replace h := ob h; obtain ⟨cs_40, hv_40, h⟩ := h
          refine ccV (As := [.long 1, .int 0]) hx hb hml hts hown hK hP hD hS hA hZ (X := 2) (by decide) rfl (ckE_some hw_41) (sc_X1_push l dC dI cB cI cJ cZ cS cO b K V fz F cs1 u0 1 0 cs_40 hv_40) (cw_X1_X1_push hts (fr := 0) (Nat.le_of_ble_eq_true rfl) (Nat.le_of_ble_eq_true rfl)) rfl hl.1 (Nat.le_of_ble_eq_true rfl) ⟨Nat.zero_le _, Nat.zero_le _⟩ dX1_compute_274 (fun H locs hP hD hS => ?_)
          refine lv_goto (tgt := 404) hx hb dX1_compute_277 (by decide) ?_
          exact B_404 cs_40 u0 u1 u2 u3 u4 h _ _ _ hP hD hS (lv_sub hl [0, 1, 2, 3, 4] rfl)
        replace h := (if_neg c_39).symm.trans h
        by_cases c_42 : v_29 = 31
        · skip
          replace h := (if_pos c_42).symm.trans h
          refine lv_tableIn (tgt := 280) (off := 212) hx hb dX1_compute_68 (by rw [c_42]; decide) (by rw [c_42]; decide) (by rw [c_42]; decide) (by decide) ?_
          refine lv_aload_n hx hb dX1_compute_280 rfl (lv_at hl 0 rfl) ?_
          refine lv_lconst (v := 0) hx hb dX1_compute_281 (by decide) ?_
          refine lv_iconst (v := 0) hx hb dX1_compute_282 (by decide) ?_
          replace h := ob h; obtain ⟨w_44, hw_44, h⟩ := h
          replace h := ob h; obtain ⟨cs_43, hv_43, h⟩ := h
          refine ccV (As := [.long 0, .int 0]) hx hb hml hts hown hK hP hD hS hA hZ (X := 2) (by decide) rfl (ckE_some hw_44) (sc_X1_push l dC dI cB cI cJ cZ cS cO b K V fz F cs1 u0 0 0 cs_43 hv_43) (cw_X1_X1_push hts (fr := 0) (Nat.le_of_ble_eq_true rfl) (Nat.le_of_ble_eq_true rfl)) rfl hl.1 (Nat.le_of_ble_eq_true rfl) ⟨Nat.zero_le _, Nat.zero_le _⟩ dX1_compute_283 (fun H locs hP hD hS => ?_)
          refine lv_goto (tgt := 404) hx hb dX1_compute_286 (by decide) ?_
          exact B_404 cs_43 u0 u1 u2 u3 u4 h _ _ _ hP hD hS (lv_sub hl [0, 1, 2, 3, 4] rfl)
        replace h := (if_neg c_42).symm.trans h
        by_cases c_45 : v_29 = 32
        · skip
          replace h := (if_pos c_45).symm.trans h
          refine lv_tableIn (tgt := 298) (off := 230) hx hb dX1_compute_68 (by rw [c_45]; decide) (by rw [c_45]; decide) (by rw [c_45]; decide) (by decide) ?_
          exact B_298 cs1 u0 u1 u2 u3 u4 h _ _ _ hP hD hS (lv_sub hl [0, 1, 2, 3, 4] rfl)
        replace h := (if_neg c_45).symm.trans h
        by_cases c_46 : v_29 = 33
        · skip
          replace h := (if_pos c_46).symm.trans h
          refine lv_tableIn (tgt := 298) (off := 230) hx hb dX1_compute_68 (by rw [c_46]; decide) (by rw [c_46]; decide) (by rw [c_46]; decide) (by decide) ?_
          exact B_298 cs1 u0 u1 u2 u3 u4 h _ _ _ hP hD hS (lv_sub hl [0, 1, 2, 3, 4] rfl)
        replace h := (if_neg c_46).symm.trans h
        by_cases c_47 : v_29 = 34
        · skip
          replace h := (if_pos c_47).symm.trans h
          refine lv_tableIn (tgt := 298) (off := 230) hx hb dX1_compute_68 (by rw [c_47]; decide) (by rw [c_47]; decide) (by rw [c_47]; decide) (by decide) ?_
          exact B_298 cs1 u0 u1 u2 u3 u4 h _ _ _ hP hD hS (lv_sub hl [0, 1, 2, 3, 4] rfl)
        replace h := (if_neg c_47).symm.trans h
        by_cases c_48 : v_29 = 35
        · skip
          replace h := (if_pos c_48).symm.trans h
          refine lv_tableIn (tgt := 298) (off := 230) hx hb dX1_compute_68 (by rw [c_48]; decide) (by rw [c_48]; decide) (by rw [c_48]; decide) (by decide) ?_
          exact B_298 cs1 u0 u1 u2 u3 u4 h _ _ _ hP hD hS (lv_sub hl [0, 1, 2, 3, 4] rfl)
        replace h := (if_neg c_48).symm.trans h
        by_cases c_49 : v_29 = 39
        · skip
          replace h := (if_pos c_49).symm.trans h
          refine lv_tableIn (tgt := 298) (off := 230) hx hb dX1_compute_68 (by rw [c_49]; decide) (by rw [c_49]; decide) (by rw [c_49]; decide) (by decide) ?_
          exact B_298 cs1 u0 u1 u2 u3 u4 h _ _ _ hP hD hS (lv_sub hl [0, 1, 2, 3, 4] rfl)
        replace h := (if_neg c_49).symm.trans h
        by_cases c_50 : v_29 = 40
        · skip
          replace h := (if_pos c_50).symm.trans h
          refine lv_tableIn (tgt := 256) (off := 188) hx hb dX1_compute_68 (by rw [c_50]; decide) (by rw [c_50]; decide) (by rw [c_50]; decide) (by decide) ?_
          refine lv_aload_n hx hb dX1_compute_256 rfl (lv_at hl 0 rfl) ?_
          refine lv_aload_n hx hb dX1_compute_257 rfl (lv_at hl 0 rfl) ?_
          replace h := ob h; obtain ⟨v_51, hv_51, h⟩ := h
          refine fg_X1_30 hx hb hts hown hK hP hv_51 dX1_compute_258 ?_
          refine lv_iload hx hb dX1_compute_261 (lv_at hl 4 rfl) ?_
          replace h := ob h; obtain ⟨v_52, hv_52, h⟩ := h
          refine ald2 hx hb hK hP rfl hv_52 dX1_compute_263 ?_
          refine lv_iconst (v := 0) hx hb dX1_compute_264 (by decide) ?_
          replace h := ob h; obtain ⟨w_54, hw_54, h⟩ := h
          replace h := ob h; obtain ⟨cs_53, hv_53, h⟩ := h
          refine ccV (As := [.long v_52, .int 0]) hx hb hml hts hown hK hP hD hS hA hZ (X := 2) (by decide) rfl (ckE_some hw_54) (sc_X1_push l dC dI cB cI cJ cZ cS cO b K V fz F cs1 u0 v_52 0 cs_53 hv_53) (cw_X1_X1_push hts (fr := 0) (Nat.le_of_ble_eq_true rfl) (Nat.le_of_ble_eq_true rfl)) rfl hl.1 (Nat.le_of_ble_eq_true rfl) ⟨Nat.zero_le _, Nat.zero_le _⟩ dX1_compute_265 (fun H locs hP hD hS => ?_)
          refine lv_goto (tgt := 404) hx hb dX1_compute_268 (by decide) ?_
          exact B_404 cs_53 u0 u1 u2 u3 u4 h _ _ _ hP hD hS (lv_sub hl [0, 1, 2, 3, 4] rfl)
        replace h := (if_neg c_50).symm.trans h
        by_cases c_55 : v_29 = 58
        · skip
          replace h := (if_pos c_55).symm.trans h
          refine lv_tableIn (tgt := 339) (off := 271) hx hb dX1_compute_68 (by rw [c_55]; decide) (by rw [c_55]; decide) (by rw [c_55]; decide) (by decide) ?_
          exact B_339 cs1 u0 u1 u2 u3 u4 h _ _ _ hP hD hS (lv_sub hl [0, 1, 2, 3, 4] rfl)
        replace h := (if_neg c_55).symm.trans h
        by_cases c_56 : v_29 = 59
        · skip
          replace h := (if_pos c_56).symm.trans h
          refine lv_tableIn (tgt := 339) (off := 271) hx hb dX1_compute_68 (by rw [c_56]; decide) (by rw [c_56]; decide) (by rw [c_56]; decide) (by decide) ?_
          exact B_339 cs1 u0 u1 u2 u3 u4 h _ _ _ hP hD hS (lv_sub hl [0, 1, 2, 3, 4] rfl)
        replace h := (if_neg c_56).symm.trans h
        by_cases c_57 : v_29 = 60
        · skip
          replace h := (if_pos c_57).symm.trans h
          refine lv_tableIn (tgt := 360) (off := 292) hx hb dX1_compute_68 (by rw [c_57]; decide) (by rw [c_57]; decide) (by rw [c_57]; decide) (by decide) ?_
          exact B_360 cs1 u0 u1 u2 u3 u4 h _ _ _ hP hD hS (lv_sub hl [0, 1, 2, 3, 4] rfl)
        replace h := (if_neg c_57).symm.trans h
        by_cases c_58 : v_29 = 61
        · skip
          replace h := (if_pos c_58).symm.trans h
          refine lv_tableIn (tgt := 298) (off := 230) hx hb dX1_compute_68 (by rw [c_58]; decide) (by rw [c_58]; decide) (by rw [c_58]; decide) (by decide) ?_
          exact B_298 cs1 u0 u1 u2 u3 u4 h _ _ _ hP hD hS (lv_sub hl [0, 1, 2, 3, 4] rfl)
        replace h := (if_neg c_58).symm.trans h
        have n_30 : ¬ (v_29 : Int32).toInt = 19 := lv_neT c_30 (by decide)
        have n_33 : ¬ (v_29 : Int32).toInt = 24 := lv_neT c_33 (by decide)
        have n_34 : ¬ (v_29 : Int32).toInt = 25 := lv_neT c_34 (by decide)
        have n_35 : ¬ (v_29 : Int32).toInt = 26 := lv_neT c_35 (by decide)
        have n_38 : ¬ (v_29 : Int32).toInt = 27 := lv_neT c_38 (by decide)
        have n_39 : ¬ (v_29 : Int32).toInt = 30 := lv_neT c_39 (by decide)
        have n_42 : ¬ (v_29 : Int32).toInt = 31 := lv_neT c_42 (by decide)
        have n_45 : ¬ (v_29 : Int32).toInt = 32 := lv_neT c_45 (by decide)
        have n_46 : ¬ (v_29 : Int32).toInt = 33 := lv_neT c_46 (by decide)
        have n_47 : ¬ (v_29 : Int32).toInt = 34 := lv_neT c_47 (by decide)
        have n_48 : ¬ (v_29 : Int32).toInt = 35 := lv_neT c_48 (by decide)
        have n_49 : ¬ (v_29 : Int32).toInt = 39 := lv_neT c_49 (by decide)
        have n_50 : ¬ (v_29 : Int32).toInt = 40 := lv_neT c_50 (by decide)
        have n_55 : ¬ (v_29 : Int32).toInt = 58 := lv_neT c_55 (by decide)
        have n_56 : ¬ (v_29 : Int32).toInt = 59 := lv_neT c_56 (by decide)
        have n_57 : ¬ (v_29 : Int32).toInt = 60 := lv_neT c_57 (by decide)
        have n_58 : ¬ (v_29 : Int32).toInt = 61 := lv_neT c_58 (by decide)
        by_cases hq_68 : (v_29 : Int32).toInt < 19 ∨ 61 < (v_29 : Int32).toInt
        · skip
          refine lv_tableOut (tgt := 393) hx hb dX1_compute_68 hq_68 (by decide) ?_
          exact B_393 cs1 u0 u1 u2 u3 u4 h _ _ _ hP hD hS (lv_sub hl [0, 1, 2, 3, 4] rfl)
        by_cases hq_68_20 : (v_29 : Int32).toInt = 20
        · skip
          refine lv_tableIn (tgt := 393) (off := 325) hx hb dX1_compute_68 (by omega) (by omega) (by rw [hq_68_20]; decide) (by decide) ?_
          exact B_393 cs1 u0 u1 u2 u3 u4 h _ _ _ hP hD hS (lv_sub hl [0, 1, 2, 3, 4] rfl)
        by_cases hq_68_21 : (v_29 : Int32).toInt = 21
        · skip
          refine lv_tableIn (tgt := 393) (off := 325) hx hb dX1_compute_68 (by omega) (by omega) (by rw [hq_68_21]; decide) (by decide) ?_
          exact B_393 cs1 u0 u1 u2 u3 u4 h _ _ _ hP hD hS (lv_sub hl [0, 1, 2, 3, 4] rfl)
        by_cases hq_68_22 : (v_29 : Int32).toInt = 22
        · skip
          refine lv_tableIn (tgt := 393) (off := 325) hx hb dX1_compute_68 (by omega) (by omega) (by rw [hq_68_22]; decide) (by decide) ?_
          exact B_393 cs1 u0 u1 u2 u3 u4 h _ _ _ hP hD hS (lv_sub hl [0, 1, 2, 3, 4] rfl)
        by_cases hq_68_23 : (v_29 : Int32).toInt = 23
        · skip
          refine lv_tableIn (tgt := 393) (off := 325) hx hb dX1_compute_68 (by omega) (by omega) (by rw [hq_68_23]; decide) (by decide) ?_
          exact B_393 cs1 u0 u1 u2 u3 u4 h _ _ _ hP hD hS (lv_sub hl [0, 1, 2, 3, 4] rfl)
        by_cases hq_68_28 : (v_29 : Int32).toInt = 28
        · skip
          refine lv_tableIn (tgt := 393) (off := 325) hx hb dX1_compute_68 (by omega) (by omega) (by rw [hq_68_28]; decide) (by decide) ?_
          exact B_393 cs1 u0 u1 u2 u3 u4 h _ _ _ hP hD hS (lv_sub hl [0, 1, 2, 3, 4] rfl)
        by_cases hq_68_29 : (v_29 : Int32).toInt = 29
        · skip
          refine lv_tableIn (tgt := 393) (off := 325) hx hb dX1_compute_68 (by omega) (by omega) (by rw [hq_68_29]; decide) (by decide) ?_
          exact B_393 cs1 u0 u1 u2 u3 u4 h _ _ _ hP hD hS (lv_sub hl [0, 1, 2, 3, 4] rfl)
        by_cases hq_68_36 : (v_29 : Int32).toInt = 36
        · skip
          refine lv_tableIn (tgt := 393) (off := 325) hx hb dX1_compute_68 (by omega) (by omega) (by rw [hq_68_36]; decide) (by decide) ?_
          exact B_393 cs1 u0 u1 u2 u3 u4 h _ _ _ hP hD hS (lv_sub hl [0, 1, 2, 3, 4] rfl)
        by_cases hq_68_37 : (v_29 : Int32).toInt = 37
        · skip
          refine lv_tableIn (tgt := 393) (off := 325) hx hb dX1_compute_68 (by omega) (by omega) (by rw [hq_68_37]; decide) (by decide) ?_
          exact B_393 cs1 u0 u1 u2 u3 u4 h _ _ _ hP hD hS (lv_sub hl [0, 1, 2, 3, 4] rfl)
        by_cases hq_68_38 : (v_29 : Int32).toInt = 38
        · skip
          refine lv_tableIn (tgt := 393) (off := 325) hx hb dX1_compute_68 (by omega) (by omega) (by rw [hq_68_38]; decide) (by decide) ?_
          exact B_393 cs1 u0 u1 u2 u3 u4 h _ _ _ hP hD hS (lv_sub hl [0, 1, 2, 3, 4] rfl)
        by_cases hq_68_41 : (v_29 : Int32).toInt = 41
        · skip
          refine lv_tableIn (tgt := 393) (off := 325) hx hb dX1_compute_68 (by omega) (by omega) (by rw [hq_68_41]; decide) (by decide) ?_
          exact B_393 cs1 u0 u1 u2 u3 u4 h _ _ _ hP hD hS (lv_sub hl [0, 1, 2, 3, 4] rfl)
        by_cases hq_68_42 : (v_29 : Int32).toInt = 42
        · skip
          refine lv_tableIn (tgt := 393) (off := 325) hx hb dX1_compute_68 (by omega) (by omega) (by rw [hq_68_42]; decide) (by decide) ?_
          exact B_393 cs1 u0 u1 u2 u3 u4 h _ _ _ hP hD hS (lv_sub hl [0, 1, 2, 3, 4] rfl)
        by_cases hq_68_43 : (v_29 : Int32).toInt = 43
        · skip
          refine lv_tableIn (tgt := 393) (off := 325) hx hb dX1_compute_68 (by omega) (by omega) (by rw [hq_68_43]; decide) (by decide) ?_
          exact B_393 cs1 u0 u1 u2 u3 u4 h _ _ _ hP hD hS (lv_sub hl [0, 1, 2, 3, 4] rfl)
        by_cases hq_68_44 : (v_29 : Int32).toInt = 44
        · skip
          refine lv_tableIn (tgt := 393) (off := 325) hx hb dX1_compute_68 (by omega) (by omega) (by rw [hq_68_44]; decide) (by decide) ?_
          exact B_393 cs1 u0 u1 u2 u3 u4 h _ _ _ hP hD hS (lv_sub hl [0, 1, 2, 3, 4] rfl)
        by_cases hq_68_45 : (v_29 : Int32).toInt = 45
        · skip
          refine lv_tableIn (tgt := 393) (off := 325) hx hb dX1_compute_68 (by omega) (by omega) (by rw [hq_68_45]; decide) (by decide) ?_
          exact B_393 cs1 u0 u1 u2 u3 u4 h _ _ _ hP hD hS (lv_sub hl [0, 1, 2, 3, 4] rfl)
        by_cases hq_68_46 : (v_29 : Int32).toInt = 46
        · skip
          refine lv_tableIn (tgt := 393) (off := 325) hx hb dX1_compute_68 (by omega) (by omega) (by rw [hq_68_46]; decide) (by decide) ?_
          exact B_393 cs1 u0 u1 u2 u3 u4 h _ _ _ hP hD hS (lv_sub hl [0, 1, 2, 3, 4] rfl)
        by_cases hq_68_47 : (v_29 : Int32).toInt = 47
        · skip
          refine lv_tableIn (tgt := 393) (off := 325) hx hb dX1_compute_68 (by omega) (by omega) (by rw [hq_68_47]; decide) (by decide) ?_
          exact B_393 cs1 u0 u1 u2 u3 u4 h _ _ _ hP hD hS (lv_sub hl [0, 1, 2, 3, 4] rfl)
        by_cases hq_68_48 : (v_29 : Int32).toInt = 48
        · skip
          refine lv_tableIn (tgt := 393) (off := 325) hx hb dX1_compute_68 (by omega) (by omega) (by rw [hq_68_48]; decide) (by decide) ?_
          exact B_393 cs1 u0 u1 u2 u3 u4 h _ _ _ hP hD hS (lv_sub hl [0, 1, 2, 3, 4] rfl)
        by_cases hq_68_49 : (v_29 : Int32).toInt = 49
        · skip
          refine lv_tableIn (tgt := 393) (off := 325) hx hb dX1_compute_68 (by omega) (by omega) (by rw [hq_68_49]; decide) (by decide) ?_
          exact B_393 cs1 u0 u1 u2 u3 u4 h _ _ _ hP hD hS (lv_sub hl [0, 1, 2, 3, 4] rfl)
        by_cases hq_68_50 : (v_29 : Int32).toInt = 50
        · skip
          refine lv_tableIn (tgt := 393) (off := 325) hx hb dX1_compute_68 (by omega) (by omega) (by rw [hq_68_50]; decide) (by decide) ?_
          exact B_393 cs1 u0 u1 u2 u3 u4 h _ _ _ hP hD hS (lv_sub hl [0, 1, 2, 3, 4] rfl)
        by_cases hq_68_51 : (v_29 : Int32).toInt = 51
        · skip
          refine lv_tableIn (tgt := 393) (off := 325) hx hb dX1_compute_68 (by omega) (by omega) (by rw [hq_68_51]; decide) (by decide) ?_
          exact B_393 cs1 u0 u1 u2 u3 u4 h _ _ _ hP hD hS (lv_sub hl [0, 1, 2, 3, 4] rfl)
        by_cases hq_68_52 : (v_29 : Int32).toInt = 52
        · skip
          refine lv_tableIn (tgt := 393) (off := 325) hx hb dX1_compute_68 (by omega) (by omega) (by rw [hq_68_52]; decide) (by decide) ?_
          exact B_393 cs1 u0 u1 u2 u3 u4 h _ _ _ hP hD hS (lv_sub hl [0, 1, 2, 3, 4] rfl)
        by_cases hq_68_53 : (v_29 : Int32).toInt = 53
        · skip
          refine lv_tableIn (tgt := 393) (off := 325) hx hb dX1_compute_68 (by omega) (by omega) (by rw [hq_68_53]; decide) (by decide) ?_
          exact B_393 cs1 u0 u1 u2 u3 u4 h _ _ _ hP hD hS (lv_sub hl [0, 1, 2, 3, 4] rfl)
        by_cases hq_68_54 : (v_29 : Int32).toInt = 54
        · skip
          refine lv_tableIn (tgt := 393) (off := 325) hx hb dX1_compute_68 (by omega) (by omega) (by rw [hq_68_54]; decide) (by decide) ?_
          exact B_393 cs1 u0 u1 u2 u3 u4 h _ _ _ hP hD hS (lv_sub hl [0, 1, 2, 3, 4] rfl)
        by_cases hq_68_55 : (v_29 : Int32).toInt = 55
        · skip
          refine lv_tableIn (tgt := 393) (off := 325) hx hb dX1_compute_68 (by omega) (by omega) (by rw [hq_68_55]; decide) (by decide) ?_
          exact B_393 cs1 u0 u1 u2 u3 u4 h _ _ _ hP hD hS (lv_sub hl [0, 1, 2, 3, 4] rfl)
        by_cases hq_68_56 : (v_29 : Int32).toInt = 56
        · skip
          refine lv_tableIn (tgt := 393) (off := 325) hx hb dX1_compute_68 (by omega) (by omega) (by rw [hq_68_56]; decide) (by decide) ?_
          exact B_393 cs1 u0 u1 u2 u3 u4 h _ _ _ hP hD hS (lv_sub hl [0, 1, 2, 3, 4] rfl)
        by_cases hq_68_57 : (v_29 : Int32).toInt = 57
        · skip
          refine lv_tableIn (tgt := 393) (off := 325) hx hb dX1_compute_68 (by omega) (by omega) (by rw [hq_68_57]; decide) (by decide) ?_
          exact B_393 cs1 u0 u1 u2 u3 u4 h _ _ _ hP hD hS (lv_sub hl [0, 1, 2, 3, 4] rfl)
        exfalso
        omega
      intro cs1 u0 u1 u2 u3 u4 h H locs ls hP hD hS hl
      rw [c_X1_compute_L23] at h
      refine lv_iload hx hb dX1_compute_23 (lv_at hl 4 rfl) ?_
      refine lv_iload_n hx hb dX1_compute_25 rfl (lv_at hl 1 rfl) ?_
      refine lv_icmp_gt (tgt := 410) hx hb dX1_compute_26 (by decide) (fun c_59 => ?_) (fun c_59 => ?_)
      · skip
        replace h := (if_pos c_59).symm.trans h
        refine lv_aload_n hx hb dX1_compute_410 rfl (lv_at hl 0 rfl) ?_
        replace h := ob h; obtain ⟨v_60, hv_60, h⟩ := h
        refine fg_X1_59 hx hb hts hown hK hP hv_60 dX1_compute_411 ?_
        refine lv_iconst (v := 1) hx hb dX1_compute_414 (by decide) ?_
        refine lv_icmp_ne (tgt := 442) hx hb dX1_compute_415 (by decide) (fun c_61 => ?_) (fun c_61 => ?_)
        · skip
          replace h := (if_neg c_61).symm.trans h
          exact B_442 cs1 h _ _ _ hP hD hS (lv_sub hl [] rfl)
        · skip
          replace h := (if_pos c_61).symm.trans h
          refine lv_aload_n hx hb dX1_compute_418 rfl (lv_at hl 0 rfl) ?_
          replace h := ob h; obtain ⟨v_62, hv_62, h⟩ := h
          refine fg_X1_49 hx hb hts hown hK hP hv_62 dX1_compute_419 ?_
          refine lv_iconst (v := 0) hx hb dX1_compute_422 (by decide) ?_
          replace h := ob h; obtain ⟨v_63, hv_63, h⟩ := h
          refine ald1 hx hb hK hP rfl hv_63 dX1_compute_423 ?_
          refine lv_if_ne (tgt := 442) hx hb dX1_compute_424 (by decide) (fun c_64 => ?_) (fun c_64 => ?_)
          · skip
            replace h := (if_neg c_64).symm.trans h
            exact B_442 cs1 h _ _ _ hP hD hS (lv_sub hl [] rfl)
          · skip
            replace h := (if_pos c_64).symm.trans h
            refine lv_aload_n hx hb dX1_compute_427 rfl (lv_at hl 0 rfl) ?_
            replace h := ob h; obtain ⟨v_65, hv_65, h⟩ := h
            refine fg_X1_46 hx hb hts hown hK hP hv_65 dX1_compute_428 ?_
            refine lv_iconst (v := 0) hx hb dX1_compute_431 (by decide) ?_
            replace h := ob h; obtain ⟨v_66, hv_66, h⟩ := h
            refine ald2 hx hb hK hP rfl hv_66 dX1_compute_432 ?_
            refine lv_lconst (v := 0) hx hb dX1_compute_433 (by decide) ?_
            refine W.lcmp hx hb dX1_compute_434 ?_
            refine lv_if_eq (tgt := 442) hx hb dX1_compute_435 (by decide) (fun c_67 => ?_) (fun c_67 => ?_)
            · skip
              have c_67 : v_66 = 0 := (lg_cmp_eq _ _).mp c_67
              replace h := (if_pos c_67).symm.trans h
              exact B_442 cs1 h _ _ _ hP hD hS (lv_sub hl [] rfl)
            · skip
              have c_67 : ¬ (v_66 = 0) := fun h9 => c_67 ((lg_cmp_eq _ _).mpr h9)
              replace h := (if_neg c_67).symm.trans h
              refine lv_iconst (v := 1) hx hb dX1_compute_438 (by decide) ?_
              refine lv_goto (tgt := 443) hx hb dX1_compute_439 (by decide) ?_
              exact B_443 cs1 1 h _ _ _ hP hD hS (lv_sub hl [] rfl)
      · skip
        replace h := (if_neg c_59).symm.trans h
        refine lv_aload_n hx hb dX1_compute_29 rfl (lv_at hl 0 rfl) ?_
        replace h := ob h; obtain ⟨v_68, hv_68, h⟩ := h
        refine fg_X1_37 hx hb hts hown hK hP hv_68 dX1_compute_30 ?_
        refine lv_iload hx hb dX1_compute_33 (lv_at hl 4 rfl) ?_
        replace h := ob h; obtain ⟨v_69, hv_69, h⟩ := h
        refine ald0 hx hb hK hP rfl hv_69 dX1_compute_35 ?_
        refine lv_iload hx hb dX1_compute_36 (lv_at hl 4 rfl) ?_
        refine lv_icmp_le (tgt := 61) hx hb dX1_compute_38 (by decide) (fun c_70 => ?_) (fun c_70 => ?_)
        · skip
          replace h := (if_pos c_70).symm.trans h
          exact B_61 cs1 u0 u1 u2 u3 u4 h _ _ _ hP hD hS (lv_sub hl [0, 1, 2, 3, 4] rfl)
        · skip
          replace h := (if_neg c_70).symm.trans h
          refine lv_aload_n hx hb dX1_compute_41 rfl (lv_at hl 0 rfl) ?_
          replace h := ob h; obtain ⟨v_71, hv_71, h⟩ := h
          refine fg_X1_37 hx hb hts hown hK hP hv_71 dX1_compute_42 ?_
          refine lv_iload hx hb dX1_compute_45 (lv_at hl 4 rfl) ?_
          replace h := ob h; obtain ⟨v_72, hv_72, h⟩ := h
          refine ald0 hx hb hK hP rfl hv_72 dX1_compute_47 ?_
          refine lv_iload_n hx hb dX1_compute_48 rfl (lv_at hl 1 rfl) ?_
          refine lv_icmp_gt (tgt := 61) hx hb dX1_compute_49 (by decide) (fun c_73 => ?_) (fun c_73 => ?_)
          · skip
            replace h := (if_pos c_73).symm.trans h
            exact B_61 cs1 u0 u1 u2 u3 u4 h _ _ _ hP hD hS (lv_sub hl [0, 1, 2, 3, 4] rfl)
          · skip
            replace h := (if_neg c_73).symm.trans h
            refine lv_aload_n hx hb dX1_compute_52 rfl (lv_at hl 0 rfl) ?_
            replace h := ob h; obtain ⟨v_74, hv_74, h⟩ := h
            refine fg_X1_37 hx hb hts hown hK hP hv_74 dX1_compute_53 ?_
            refine lv_iload hx hb dX1_compute_56 (lv_at hl 4 rfl) ?_
            replace h := ob h; obtain ⟨v_75, hv_75, h⟩ := h
            refine ald0 hx hb hK hP rfl hv_75 dX1_compute_58 ?_
            refine lv_istore (lv' := [(4, .int v_75), (0, .ref (b + u0)), (1, .int u1), (2, .ref (b + u2)), (3, .int u3)]) hx hb dX1_compute_59 hl (by decide) rfl (fun ls hl => ?_)
            exact B_61 cs1 u0 u1 u2 u3 v_75 h _ _ _ hP hD hS (lv_sub hl [1, 2, 3, 4, 0] rfl)
  have h := hf
  unfold c_X1_compute at h
  refine lv_aload_n hx hb dX1_compute_0 rfl (lv_at hl 0 rfl) ?_
  refine lv_iconst (v := 0) hx hb dX1_compute_1 (by decide) ?_
  replace h := ob h; obtain ⟨cs_76, hv_76, h⟩ := h
  refine fp_X1_59 hx hb hts hown hK hP hD hS hv_76 dX1_compute_2 (fun H locs hP hD hS => ?_)
  refine lv_aload_n hx hb dX1_compute_5 rfl (lv_at hl 0 rfl) ?_
  refine lv_iload_n hx hb dX1_compute_6 rfl (lv_at hl 1 rfl) ?_
  replace h := ob h; obtain ⟨w_78, hw_78, h⟩ := h
  replace h := ob h; obtain ⟨v_77, hv_77, h⟩ := h
  refine ccI (As := [.int x1]) hx hb hml hts hown hK hP hD hS hA hZ (X := 2) (by decide) rfl (ckE_some hw_78) (sc_X1_has l dC dI cB cI cJ cZ cS cO b K V fz F cs_76 x0 x1 v_77 hv_77) (cw_X1_X1_has hts (fr := 0) (Nat.le_of_ble_eq_true rfl) (Nat.le_of_ble_eq_true rfl)) rfl hl.1 (Nat.le_of_ble_eq_true rfl) ⟨Nat.zero_le _, Nat.zero_le _⟩ dX1_compute_7 (fun H locs hP hD hS => ?_)
  refine lv_if_ne (tgt := 15) hx hb dX1_compute_10 (by decide) (fun c_79 => ?_) (fun c_79 => ?_)
  · skip
    replace h := (if_neg c_79).symm.trans h
    refine lv_aload_n hx hb dX1_compute_15 rfl (lv_at hl 0 rfl) ?_
    replace h := ob h; obtain ⟨v_80, hv_80, h⟩ := h
    refine fg_X1_24 hx hb hts hown hK hP hv_80 dX1_compute_16 ?_
    refine lv_iload_n hx hb dX1_compute_19 rfl (lv_at hl 1 rfl) ?_
    replace h := ob h; obtain ⟨v_81, hv_81, h⟩ := h
    refine ald0 hx hb hK hP rfl hv_81 dX1_compute_20 ?_
    refine lv_istore (lv' := [(4, .int v_81), (0, .ref (b + x0)), (1, .int x1), (2, .ref (b + x2)), (3, .int x3)]) hx hb dX1_compute_21 hl (by decide) rfl (fun ls hl => ?_)
    exact L_23 F cs_76 x0 x1 x2 x3 v_81 h _ _ _ hP hD hS (lv_sub hl [1, 2, 3, 4, 0] rfl)
  · skip
    replace h := (if_pos c_79).symm.trans h
    refine lv_iconst (v := 0) hx hb dX1_compute_13 (by decide) ?_
    obtain ⟨e1, e2⟩ := Prod.mk.inj (Option.some.inj h)
    rw [e1] at hP hD
    exact W.zret (v := 0) hx hb hr (nzN (Or.inl rfl)) (fun t_ ht hW => ⟨⟨0, (), rfl, e2, by rw [ht]; exact hP, hD⟩, hS.F ht⟩) hS.2.2 dX1_compute_14
theorem dX1_resultValue_0 : decode cX1_resultValue 0 = .ok (.aload_n 0, 1) := by decide +kernel
theorem dX1_resultValue_1 : decode cX1_resultValue 1 = .ok (.getfield 59, 3) := by decide +kernel
theorem dX1_resultValue_4 : decode cX1_resultValue 4 = .ok (.iconst 1, 1) := by decide +kernel
theorem dX1_resultValue_5 : decode cX1_resultValue 5 = .ok (.if_icmp .ne 12, 3) := by decide +kernel
theorem dX1_resultValue_8 : decode cX1_resultValue 8 = .ok (.aload_n 0, 1) := by decide +kernel
theorem dX1_resultValue_9 : decode cX1_resultValue 9 = .ok (.getfield 46, 3) := by decide +kernel
theorem dX1_resultValue_12 : decode cX1_resultValue 12 = .ok (.iconst 0, 1) := by decide +kernel
theorem dX1_resultValue_13 : decode cX1_resultValue 13 = .ok (.laload, 1) := by decide +kernel
theorem dX1_resultValue_14 : decode cX1_resultValue 14 = .ok (.goto 4, 3) := by decide +kernel
theorem dX1_resultValue_17 : decode cX1_resultValue 17 = .ok (.lconst 0, 1) := by decide +kernel
theorem dX1_resultValue_18 : decode cX1_resultValue 18 = .ok (.lreturn, 1) := by decide +kernel
def c_X1_resultValue_b18 (F : Nat) (cs : CS) (y0 : Int64) : Option Int64 := some y0
def c_X1_resultValue (F : Nat) (cs : CS) (x0 : Nat) : Option Int64 := Option.bind (gI cs 2 76 x0) fun v_1 => if v_1 = 1 then (Option.bind (gA cs 2 74 x0) fun v_3 => Option.bind (rB cs 74 x0 v_3 0) fun v_4 => c_X1_resultValue_b18 F cs v_4) else (c_X1_resultValue_b18 F cs 0)
theorem cw_X1_X1_resultValue {R : Room} {s : State} {args : Array Value} {y0 : MethodName} {c0 : ByteArray} {n0 : Nat} {r0 : Option FieldType} (hts : ∀ w ∈ wsOf y0 c0 n0 r0, w.before args s = true) {fr : Nat} (h1 : fr + 1 ≤ R.frames) (h2 : 8 + (1 + 11) + 60 * fr ≤ R.locals) : CallW R s args RX1 RX1 105 yX1_resultValue cX1_resultValue 1 (some .long) (wsOf yX1_resultValue cX1_resultValue 1 (some .long)) ({ frames := fr, cells := 0, slots := 0, locals := 60 * fr } : Room) 0 0 0 := cwV 0 hts (gd_all (in_V kw_1672 kw_1476 kw_1477 kw_189 kc_X1_resultValue)) rfl rfl rfl (by decide +kernel) ⟨h1, h2⟩
theorem cw_X4_X1_resultValue {R : Room} {s : State} {args : Array Value} {y0 : MethodName} {c0 : ByteArray} {n0 : Nat} {r0 : Option FieldType} (hts : ∀ w ∈ wsOf y0 c0 n0 r0, w.before args s = true) {fr : Nat} (h1 : fr + 1 ≤ R.frames) (h2 : 8 + (1 + 11) + 60 * fr ≤ R.locals) : CallW R s args RX4 RX1 120 yX1_resultValue cX1_resultValue 1 (some .long) (wsOf yX1_resultValue cX1_resultValue 1 (some .long)) ({ frames := fr, cells := 0, slots := 0, locals := 60 * fr } : Room) 0 0 0 := cwV 0 hts (gd_all (in_V kw_1475 kw_1476 kw_1477 kw_189 kc_X1_resultValue)) rfl rfl rfl (by decide +kernel) ⟨h1, h2⟩
set_option maxHeartbeats 4000000 in
set_option maxRecDepth 100000 in
theorem sc_X1_resultValue (l : Launch) (dC : Nat → ClassId) (dI : Nat → Nat → Nat) (cB cI cJ cZ cS cO : ClassId) (b : Nat) (K V : Nat → Nat) (fz : Value) (F : Nat) (cs : CS) (x0 : Nat) (r9 : Int64) (hf : c_X1_resultValue F cs x0 = some r9) : ocL l dC dI cB cI cJ cZ cS cO b K V fz yX1_resultValue (wsOf yX1_resultValue cX1_resultValue 1 (some .long)) (0) [.ref (b + x0)] cs cs r9 := by
  intro sz
  refine Met.ofW (cc := cX1_resultValue) (maxL := 1) (ret := (some .long)) (by decide) rfl ?_
  intro p e s m args below meth c s₁ B hml hv
  obtain ⟨rfl, hsz, hP, hK, hD0, hZ⟩ := hv
  have hx := B.exec
  have hb := B.bytes
  have hr := B.returns
  have hts := atoms_spec (ws := (wsOf yX1_resultValue cX1_resultValue 1 (some .long))) B.pre
  have hown : s.vm.findClass RX1 = some m.cls := findClass_of_methodNamed B.named
  have hlocks := B.notSynchronized
  subst hsz
  have hD := hD0.self (sz := s.heap.size)
  generalize hAe : va_A (cW cB cI cJ cZ cS cO b cs) s.heap.size = A at hD hZ ⊢
  have hA : ∀ q : Nat, s.heap.size ≤ q → A q := fun q h => by rw [← hAe]; exact Or.inr h
  have hS : va_S A s.heap s.heap [] := va_S.rf
  have hl := lv_entry ([.ref (b + x0)]) (n := 1) (Nat.le_of_ble_eq_true rfl)
  rw [lg_entry_eq]
  generalize (lg_sl ([.ref (b + x0)]) ++ List.replicate (1 - (lg_sl ([.ref (b + x0)])).length) Slot.unset).toArray = ls at hl ⊢
  have hl : lv_has ls 1 [(0, .ref (b + x0))] := hl
  have B_18 : ∀ (y0 : Int64), c_X1_resultValue_b18 F cs y0 = some r9 → ∀ (H : Heap) (locs : List Loc) (ls : Array Slot), va_P (dC, dI) vwCl (cW cB cI cJ cZ cS cO b cs) H → va_D A (cW cB cI cJ cZ cS cO b cs) → va_S A s.heap H locs → lv_has ls 1 [] → W p l e (headSpec (wsOf yX1_resultValue cX1_resultValue 1 (some .long)) ({ frames := 0, cells := 0, slots := 0, locals := 60 * (0) } : Room)).room s m ([.ref (b + x0)] : List Value).toArray below meth c H locs 0 0 (MQ below (va_Ql (fun (x : Int64) (_ : Unit) => x = r9) (fun _ t_ => va_P (dC, dI) vwCl (cW cB cI cJ cZ cS cO b cs) t_.heap ∧ va_D A (cW cB cI cJ cZ cS cO b cs)) A) ([.ref (b + x0)] : List Value).toArray s 0 0 A) (F0 m 18 ls [.long y0]) := by
    intro y0 h H locs ls hP hD hS hl
    unfold c_X1_resultValue_b18 at h
    have e2 := Option.some.inj h
    exact W.lret (v := y0) hx hb hr (fun t_ ht hW => ⟨⟨y0, (), rfl, e2, by rw [ht]; exact hP, hD⟩, hS.F ht⟩) hS.2.2 dX1_resultValue_18
  have h := hf
  unfold c_X1_resultValue at h
  refine lv_aload_n hx hb dX1_resultValue_0 rfl (lv_at hl 0 rfl) ?_
  replace h := ob h; obtain ⟨v_1, hv_1, h⟩ := h
  refine fg_X1_59 hx hb hts hown hK hP hv_1 dX1_resultValue_1 ?_
  refine lv_iconst (v := 1) hx hb dX1_resultValue_4 (by decide) ?_
  refine lv_icmp_ne (tgt := 17) hx hb dX1_resultValue_5 (by decide) (fun c_2 => ?_) (fun c_2 => ?_)
  · skip
    replace h := (if_neg c_2).symm.trans h
    refine lv_lconst (v := 0) hx hb dX1_resultValue_17 (by decide) ?_
    exact B_18 0 h _ _ _ hP hD hS (lv_sub hl [] rfl)
  · skip
    replace h := (if_pos c_2).symm.trans h
    refine lv_aload_n hx hb dX1_resultValue_8 rfl (lv_at hl 0 rfl) ?_
    replace h := ob h; obtain ⟨v_3, hv_3, h⟩ := h
    refine fg_X1_46 hx hb hts hown hK hP hv_3 dX1_resultValue_9 ?_
    refine lv_iconst (v := 0) hx hb dX1_resultValue_12 (by decide) ?_
    replace h := ob h; obtain ⟨v_4, hv_4, h⟩ := h
    refine ald2 hx hb hK hP rfl hv_4 dX1_resultValue_13 ?_
    refine lv_goto (tgt := 18) hx hb dX1_resultValue_14 (by decide) ?_
    exact B_18 v_4 h _ _ _ hP hD hS (lv_sub hl [] rfl)
theorem dX1_resultBlank_0 : decode cX1_resultBlank 0 = .ok (.aload_n 0, 1) := by decide +kernel
theorem dX1_resultBlank_1 : decode cX1_resultBlank 1 = .ok (.getfield 59, 3) := by decide +kernel
theorem dX1_resultBlank_4 : decode cX1_resultBlank 4 = .ok (.iconst 1, 1) := by decide +kernel
theorem dX1_resultBlank_5 : decode cX1_resultBlank 5 = .ok (.if_icmp .ne 12, 3) := by decide +kernel
theorem dX1_resultBlank_8 : decode cX1_resultBlank 8 = .ok (.aload_n 0, 1) := by decide +kernel
theorem dX1_resultBlank_9 : decode cX1_resultBlank 9 = .ok (.getfield 49, 3) := by decide +kernel
theorem dX1_resultBlank_12 : decode cX1_resultBlank 12 = .ok (.iconst 0, 1) := by decide +kernel
theorem dX1_resultBlank_13 : decode cX1_resultBlank 13 = .ok (.baload, 1) := by decide +kernel
theorem dX1_resultBlank_14 : decode cX1_resultBlank 14 = .ok (.goto 4, 3) := by decide +kernel
theorem dX1_resultBlank_17 : decode cX1_resultBlank 17 = .ok (.iconst 1, 1) := by decide +kernel
theorem dX1_resultBlank_18 : decode cX1_resultBlank 18 = .ok (.ireturn, 1) := by decide +kernel
def c_X1_resultBlank_b18 (F : Nat) (cs : CS) (y0 : Int32) : Option Int32 := Option.bind (ckB y0) fun _ => some y0
def c_X1_resultBlank (F : Nat) (cs : CS) (x0 : Nat) : Option Int32 := Option.bind (gI cs 2 76 x0) fun v_2 => if v_2 = 1 then (Option.bind (gA cs 2 75 x0) fun v_4 => Option.bind (rA cs 75 x0 v_4 0) fun v_5 => c_X1_resultBlank_b18 F cs v_5) else (c_X1_resultBlank_b18 F cs 1)
theorem cw_X1_X1_resultBlank {R : Room} {s : State} {args : Array Value} {y0 : MethodName} {c0 : ByteArray} {n0 : Nat} {r0 : Option FieldType} (hts : ∀ w ∈ wsOf y0 c0 n0 r0, w.before args s = true) {fr : Nat} (h1 : fr + 1 ≤ R.frames) (h2 : 8 + (1 + 11) + 60 * fr ≤ R.locals) : CallW R s args RX1 RX1 101 yX1_resultBlank cX1_resultBlank 1 (some .byte) (wsOf yX1_resultBlank cX1_resultBlank 1 (some .byte)) ({ frames := fr, cells := 0, slots := 0, locals := 60 * fr } : Room) 0 0 0 := cwV 0 hts (gd_all (in_V kw_1671 kw_1480 kw_1481 kw_189 kc_X1_resultBlank)) rfl rfl rfl (by decide +kernel) ⟨h1, h2⟩
theorem cw_X4_X1_resultBlank {R : Room} {s : State} {args : Array Value} {y0 : MethodName} {c0 : ByteArray} {n0 : Nat} {r0 : Option FieldType} (hts : ∀ w ∈ wsOf y0 c0 n0 r0, w.before args s = true) {fr : Nat} (h1 : fr + 1 ≤ R.frames) (h2 : 8 + (1 + 11) + 60 * fr ≤ R.locals) : CallW R s args RX4 RX1 124 yX1_resultBlank cX1_resultBlank 1 (some .byte) (wsOf yX1_resultBlank cX1_resultBlank 1 (some .byte)) ({ frames := fr, cells := 0, slots := 0, locals := 60 * fr } : Room) 0 0 0 := cwV 0 hts (gd_all (in_V kw_1479 kw_1480 kw_1481 kw_189 kc_X1_resultBlank)) rfl rfl rfl (by decide +kernel) ⟨h1, h2⟩
set_option maxHeartbeats 4000000 in
set_option maxRecDepth 100000 in
theorem sc_X1_resultBlank (l : Launch) (dC : Nat → ClassId) (dI : Nat → Nat → Nat) (cB cI cJ cZ cS cO : ClassId) (b : Nat) (K V : Nat → Nat) (fz : Value) (F : Nat) (cs : CS) (x0 : Nat) (r9 : Int32) (hf : c_X1_resultBlank F cs x0 = some r9) : ocI l dC dI cB cI cJ cZ cS cO b K V fz yX1_resultBlank (wsOf yX1_resultBlank cX1_resultBlank 1 (some .byte)) (0) [.ref (b + x0)] cs cs r9 := by
  intro sz
  refine Met.ofW (cc := cX1_resultBlank) (maxL := 1) (ret := (some .byte)) (by decide) rfl ?_
  intro p e s m args below meth c s₁ B hml hv
  obtain ⟨rfl, hsz, hP, hK, hD0, hZ⟩ := hv
  have hx := B.exec
  have hb := B.bytes
  have hr := B.returns
  have hts := atoms_spec (ws := (wsOf yX1_resultBlank cX1_resultBlank 1 (some .byte))) B.pre
  have hown : s.vm.findClass RX1 = some m.cls := findClass_of_methodNamed B.named
  have hlocks := B.notSynchronized
  subst hsz
  have hD := hD0.self (sz := s.heap.size)
  generalize hAe : va_A (cW cB cI cJ cZ cS cO b cs) s.heap.size = A at hD hZ ⊢
  have hA : ∀ q : Nat, s.heap.size ≤ q → A q := fun q h => by rw [← hAe]; exact Or.inr h
  have hS : va_S A s.heap s.heap [] := va_S.rf
  have hl := lv_entry ([.ref (b + x0)]) (n := 1) (Nat.le_of_ble_eq_true rfl)
  rw [lg_entry_eq]
  generalize (lg_sl ([.ref (b + x0)]) ++ List.replicate (1 - (lg_sl ([.ref (b + x0)])).length) Slot.unset).toArray = ls at hl ⊢
  have hl : lv_has ls 1 [(0, .ref (b + x0))] := hl
  have B_18 : ∀ (y0 : Int32), c_X1_resultBlank_b18 F cs y0 = some r9 → ∀ (H : Heap) (locs : List Loc) (ls : Array Slot), va_P (dC, dI) vwCl (cW cB cI cJ cZ cS cO b cs) H → va_D A (cW cB cI cJ cZ cS cO b cs) → va_S A s.heap H locs → lv_has ls 1 [] → W p l e (headSpec (wsOf yX1_resultBlank cX1_resultBlank 1 (some .byte)) ({ frames := 0, cells := 0, slots := 0, locals := 60 * (0) } : Room)).room s m ([.ref (b + x0)] : List Value).toArray below meth c H locs 0 0 (MQ below (va_Qi (fun (x : Int32) (_ : Unit) => x = r9) (fun _ t_ => va_P (dC, dI) vwCl (cW cB cI cJ cZ cS cO b cs) t_.heap ∧ va_D A (cW cB cI cJ cZ cS cO b cs)) A) ([.ref (b + x0)] : List Value).toArray s 0 0 A) (F0 m 18 ls [.int y0]) := by
    intro y0 h H locs ls hP hD hS hl
    unfold c_X1_resultBlank_b18 at h
    replace h := ob h; obtain ⟨w_1, hw_1, h⟩ := h
    have e2 := Option.some.inj h
    exact W.zret (v := y0) hx hb hr (ckB_some hw_1) (fun t_ ht hW => ⟨⟨y0, (), rfl, e2, by rw [ht]; exact hP, hD⟩, hS.F ht⟩) hS.2.2 dX1_resultBlank_18
  have h := hf
  unfold c_X1_resultBlank at h
  refine lv_aload_n hx hb dX1_resultBlank_0 rfl (lv_at hl 0 rfl) ?_
  replace h := ob h; obtain ⟨v_2, hv_2, h⟩ := h
  refine fg_X1_59 hx hb hts hown hK hP hv_2 dX1_resultBlank_1 ?_
  refine lv_iconst (v := 1) hx hb dX1_resultBlank_4 (by decide) ?_
  refine lv_icmp_ne (tgt := 17) hx hb dX1_resultBlank_5 (by decide) (fun c_3 => ?_) (fun c_3 => ?_)
  · skip
    replace h := (if_neg c_3).symm.trans h
    refine lv_iconst (v := 1) hx hb dX1_resultBlank_17 (by decide) ?_
    exact B_18 1 h _ _ _ hP hD hS (lv_sub hl [] rfl)
  · skip
    replace h := (if_pos c_3).symm.trans h
    refine lv_aload_n hx hb dX1_resultBlank_8 rfl (lv_at hl 0 rfl) ?_
    replace h := ob h; obtain ⟨v_4, hv_4, h⟩ := h
    refine fg_X1_49 hx hb hts hown hK hP hv_4 dX1_resultBlank_9 ?_
    refine lv_iconst (v := 0) hx hb dX1_resultBlank_12 (by decide) ?_
    replace h := ob h; obtain ⟨v_5, hv_5, h⟩ := h
    refine ald1 hx hb hK hP rfl hv_5 dX1_resultBlank_13 ?_
    refine lv_goto (tgt := 18) hx hb dX1_resultBlank_14 (by decide) ?_
    exact B_18 v_5 h _ _ _ hP hD hS (lv_sub hl [] rfl)
theorem dX1_weigh_0 : decode cX1_weigh 0 = .ok (.aload_n 0, 1) := by decide +kernel
theorem dX1_weigh_1 : decode cX1_weigh 1 = .ok (.iconst 0, 1) := by decide +kernel
theorem dX1_weigh_2 : decode cX1_weigh 2 = .ok (.putfield 59, 3) := by decide +kernel
theorem dX1_weigh_5 : decode cX1_weigh 5 = .ok (.aload_n 0, 1) := by decide +kernel
theorem dX1_weigh_6 : decode cX1_weigh 6 = .ok (.iload_n 2, 1) := by decide +kernel
theorem dX1_weigh_7 : decode cX1_weigh 7 = .ok (.i2l, 1) := by decide +kernel
theorem dX1_weigh_8 : decode cX1_weigh 8 = .ok (.iload_n 2, 1) := by decide +kernel
theorem dX1_weigh_9 : decode cX1_weigh 9 = .ok (.ifCond .eq 8, 3) := by decide +kernel
theorem dX1_weigh_12 : decode cX1_weigh 12 = .ok (.iload_n 2, 1) := by decide +kernel
theorem dX1_weigh_13 : decode cX1_weigh 13 = .ok (.iconst 1, 1) := by decide +kernel
theorem dX1_weigh_14 : decode cX1_weigh 14 = .ok (.if_icmp .ne 7, 3) := by decide +kernel
theorem dX1_weigh_17 : decode cX1_weigh 17 = .ok (.iconst 0, 1) := by decide +kernel
theorem dX1_weigh_18 : decode cX1_weigh 18 = .ok (.goto 4, 3) := by decide +kernel
theorem dX1_weigh_21 : decode cX1_weigh 21 = .ok (.iconst 1, 1) := by decide +kernel
theorem dX1_weigh_22 : decode cX1_weigh 22 = .ok (.invokevirtual 66, 3) := by decide +kernel
theorem dX1_weigh_25 : decode cX1_weigh 25 = .ok (.iload_n 1, 1) := by decide +kernel
theorem dX1_weigh_26 : decode cX1_weigh 26 = .ok (.bipush 25, 2) := by decide +kernel
theorem dX1_weigh_28 : decode cX1_weigh 28 = .ok (.if_icmp .ne 11, 3) := by decide +kernel
theorem dX1_weigh_31 : decode cX1_weigh 31 = .ok (.aload_n 0, 1) := by decide +kernel
theorem dX1_weigh_32 : decode cX1_weigh 32 = .ok (.iload_n 1, 1) := by decide +kernel
theorem dX1_weigh_33 : decode cX1_weigh 33 = .ok (.invokevirtual 79, 3) := by decide +kernel
theorem dX1_weigh_36 : decode cX1_weigh 36 = .ok (.goto 28, 3) := by decide +kernel
theorem dX1_weigh_39 : decode cX1_weigh 39 = .ok (.aload_n 0, 1) := by decide +kernel
theorem dX1_weigh_40 : decode cX1_weigh 40 = .ok (.iload_n 3, 1) := by decide +kernel
theorem dX1_weigh_41 : decode cX1_weigh 41 = .ok (.i2l, 1) := by decide +kernel
theorem dX1_weigh_42 : decode cX1_weigh 42 = .ok (.iload_n 3, 1) := by decide +kernel
theorem dX1_weigh_43 : decode cX1_weigh 43 = .ok (.ifCond .eq 8, 3) := by decide +kernel
theorem dX1_weigh_46 : decode cX1_weigh 46 = .ok (.iload_n 3, 1) := by decide +kernel
theorem dX1_weigh_47 : decode cX1_weigh 47 = .ok (.iconst 1, 1) := by decide +kernel
theorem dX1_weigh_48 : decode cX1_weigh 48 = .ok (.if_icmp .ne 7, 3) := by decide +kernel
theorem dX1_weigh_51 : decode cX1_weigh 51 = .ok (.iconst 0, 1) := by decide +kernel
theorem dX1_weigh_52 : decode cX1_weigh 52 = .ok (.goto 4, 3) := by decide +kernel
theorem dX1_weigh_55 : decode cX1_weigh 55 = .ok (.iconst 1, 1) := by decide +kernel
theorem dX1_weigh_56 : decode cX1_weigh 56 = .ok (.invokevirtual 66, 3) := by decide +kernel
theorem dX1_weigh_59 : decode cX1_weigh 59 = .ok (.aload_n 0, 1) := by decide +kernel
theorem dX1_weigh_60 : decode cX1_weigh 60 = .ok (.iload_n 1, 1) := by decide +kernel
theorem dX1_weigh_61 : decode cX1_weigh 61 = .ok (.invokevirtual 90, 3) := by decide +kernel
theorem dX1_weigh_64 : decode cX1_weigh 64 = .ok (.aload_n 0, 1) := by decide +kernel
theorem dX1_weigh_65 : decode cX1_weigh 65 = .ok (.invokevirtual 101, 3) := by decide +kernel
theorem dX1_weigh_68 : decode cX1_weigh 68 = .ok (.ifCond .eq 7, 3) := by decide +kernel
theorem dX1_weigh_71 : decode cX1_weigh 71 = .ok (.iconst (-1), 1) := by decide +kernel
theorem dX1_weigh_72 : decode cX1_weigh 72 = .ok (.goto 8, 3) := by decide +kernel
theorem dX1_weigh_75 : decode cX1_weigh 75 = .ok (.aload_n 0, 1) := by decide +kernel
theorem dX1_weigh_76 : decode cX1_weigh 76 = .ok (.invokevirtual 105, 3) := by decide +kernel
theorem dX1_weigh_79 : decode cX1_weigh 79 = .ok (.l2i, 1) := by decide +kernel
theorem dX1_weigh_80 : decode cX1_weigh 80 = .ok (.ireturn, 1) := by decide +kernel
def c_X1_weigh_b80 (F : Nat) (cs1 : CS) (y0 : Int32) : Option (CS × Int32) := some (cs1, y0)
def c_X1_weigh_b64 (F : Nat) (cs1 : CS) (u0 : Nat) : Option (CS × Int32) := Option.bind (ckE cs1 2 u0) fun _ => Option.bind (c_X1_resultBlank F cs1 u0) fun v_1 => if v_1 = 0 then (Option.bind (ckE cs1 2 u0) fun _ => Option.bind (c_X1_resultValue F cs1 u0) fun v_4 => c_X1_weigh_b80 F cs1 v_4.toInt32) else (c_X1_weigh_b80 F cs1 (-1))
def c_X1_weigh_b56 (F : Nat) (cs1 : CS) (u0 : Nat) (u1 : Int32) (y0 : Int32) (y1 : Int64) (y2 : Nat) : Option (CS × Int32) := Option.bind (ckE cs1 2 y2) fun _ => Option.bind (c_X1_push F cs1 y2 y1 y0) fun cs_6 => Option.bind (ckE cs_6 2 u0) fun _ => Option.bind (c_X1_two F cs_6 u0 u1) fun cs_8 => c_X1_weigh_b64 F cs_8 u0
def c_X1_weigh_b51 (F : Nat) (cs1 : CS) (u0 : Nat) (u1 : Int32) (y0 : Int64) (y1 : Nat) : Option (CS × Int32) := c_X1_weigh_b56 F cs1 u0 u1 0 y0 y1
def c_X1_weigh_b22 (F : Nat) (cs1 : CS) (u0 : Nat) (u1 : Int32) (u3 : Int32) (y0 : Int32) (y1 : Int64) (y2 : Nat) : Option (CS × Int32) := Option.bind (ckE cs1 2 y2) fun _ => Option.bind (c_X1_push F cs1 y2 y1 y0) fun cs_10 => if u1 = 25 then (Option.bind (ckE cs_10 2 u0) fun _ => Option.bind (c_X1_one F cs_10 u0 u1) fun cs_15 => c_X1_weigh_b64 F cs_15 u0) else (if u3 = 0 then (c_X1_weigh_b51 F cs_10 u0 u1 ((u3 : Int32).toInt64) u0) else (if u3 = 1 then (c_X1_weigh_b51 F cs_10 u0 u1 ((u3 : Int32).toInt64) u0) else (c_X1_weigh_b56 F cs_10 u0 u1 1 ((u3 : Int32).toInt64) u0)))
def c_X1_weigh_b17 (F : Nat) (cs1 : CS) (u0 : Nat) (u1 : Int32) (u3 : Int32) (y0 : Int64) (y1 : Nat) : Option (CS × Int32) := c_X1_weigh_b22 F cs1 u0 u1 u3 0 y0 y1
def c_X1_weigh (F : Nat) (cs : CS) (x0 : Nat) (x1 : Int32) (x2 : Int32) (x3 : Int32) : Option (CS × Int32) := Option.bind (pI cs 2 76 x0 0) fun cs_17 => if x2 = 0 then (c_X1_weigh_b17 F cs_17 x0 x1 x3 ((x2 : Int32).toInt64) x0) else (if x2 = 1 then (c_X1_weigh_b17 F cs_17 x0 x1 x3 ((x2 : Int32).toInt64) x0) else (c_X1_weigh_b22 F cs_17 x0 x1 x3 1 ((x2 : Int32).toInt64) x0))
theorem cw_X11_X1_weigh {R : Room} {s : State} {args : Array Value} {y0 : MethodName} {c0 : ByteArray} {n0 : Nat} {r0 : Option FieldType} (hts : ∀ w ∈ wsOf y0 c0 n0 r0, w.before args s = true) {fr : Nat} (h1 : fr + 1 ≤ R.frames) (h2 : 8 + (4 + 11) + 60 * fr ≤ R.locals) : CallW R s args RX11 RX1 175 yX1_weigh cX1_weigh 4 (some .int) (wsOf yX1_weigh cX1_weigh 4 (some .int)) ({ frames := fr, cells := 0, slots := 0, locals := 60 * fr } : Room) 0 0 3 := cwV 3 hts (gd_all (in_V kw_1667 kw_1668 kw_1669 kw_189 kc_X1_weigh)) rfl rfl rfl (by decide +kernel) ⟨h1, h2⟩
set_option maxHeartbeats 4000000 in
set_option maxRecDepth 100000 in
theorem sc_X1_weigh (l : Launch) (dC : Nat → ClassId) (dI : Nat → Nat → Nat) (cB cI cJ cZ cS cO : ClassId) (b : Nat) (K V : Nat → Nat) (fz : Value) (F : Nat) (cs : CS) (x0 : Nat) (x1 : Int32) (x2 : Int32) (x3 : Int32) (cs9 : CS) (r9 : Int32) (hf : c_X1_weigh F cs x0 x1 x2 x3 = some (cs9, r9)) : ocI l dC dI cB cI cJ cZ cS cO b K V fz yX1_weigh (wsOf yX1_weigh cX1_weigh 4 (some .int)) (2) [.ref (b + x0), .int x1, .int x2, .int x3] cs cs9 r9 := by
  intro sz
  refine Met.ofW (cc := cX1_weigh) (maxL := 4) (ret := (some .int)) (by decide) rfl ?_
  intro p e s m args below meth c s₁ B hml hv
  obtain ⟨rfl, hsz, hP, hK, hD0, hZ⟩ := hv
  have hx := B.exec
  have hb := B.bytes
  have hr := B.returns
  have hts := atoms_spec (ws := (wsOf yX1_weigh cX1_weigh 4 (some .int))) B.pre
  have hown : s.vm.findClass RX1 = some m.cls := findClass_of_methodNamed B.named
  have hlocks := B.notSynchronized
  subst hsz
  have hD := hD0.self (sz := s.heap.size)
  generalize hAe : va_A (cW cB cI cJ cZ cS cO b cs) s.heap.size = A at hD hZ ⊢
  have hA : ∀ q : Nat, s.heap.size ≤ q → A q := fun q h => by rw [← hAe]; exact Or.inr h
  have hS : va_S A s.heap s.heap [] := va_S.rf
  have hl := lv_entry ([.ref (b + x0), .int x1, .int x2, .int x3]) (n := 4) (Nat.le_of_ble_eq_true rfl)
  rw [lg_entry_eq]
  generalize (lg_sl ([.ref (b + x0), .int x1, .int x2, .int x3]) ++ List.replicate (4 - (lg_sl ([.ref (b + x0), .int x1, .int x2, .int x3])).length) Slot.unset).toArray = ls at hl ⊢
  have hl : lv_has ls 4 [(0, .ref (b + x0)), (1, .int x1), (2, .int x2), (3, .int x3)] := hl
  have B_80 : ∀ (cs1 : CS) (y0 : Int32), c_X1_weigh_b80 F cs1 y0 = some (cs9, r9) → ∀ (H : Heap) (locs : List Loc) (ls : Array Slot), va_P (dC, dI) vwCl (cW cB cI cJ cZ cS cO b cs1) H → va_D A (cW cB cI cJ cZ cS cO b cs1) → va_S A s.heap H locs → lv_has ls 4 [] → W p l e (headSpec (wsOf yX1_weigh cX1_weigh 4 (some .int)) ({ frames := 2, cells := 0, slots := 0, locals := 60 * (2) } : Room)).room s m ([.ref (b + x0), .int x1, .int x2, .int x3] : List Value).toArray below meth c H locs 0 0 (MQ below (va_Qi (fun (x : Int32) (_ : Unit) => x = r9) (fun _ t_ => va_P (dC, dI) vwCl (cW cB cI cJ cZ cS cO b cs9) t_.heap ∧ va_D A (cW cB cI cJ cZ cS cO b cs9)) A) ([.ref (b + x0), .int x1, .int x2, .int x3] : List Value).toArray s 0 0 A) (F0 m 80 ls [.int y0]) := by
    intro cs1 y0 h H locs ls hP hD hS hl
    unfold c_X1_weigh_b80 at h
    obtain ⟨e1, e2⟩ := Prod.mk.inj (Option.some.inj h)
    rw [e1] at hP hD
    exact W.iret (v := y0) hx hb hr (fun t_ ht hW => ⟨⟨y0, (), rfl, e2, by rw [ht]; exact hP, hD⟩, hS.F ht⟩) hS.2.2 dX1_weigh_80
  have B_64 : ∀ (cs1 : CS) (u0 : Nat), c_X1_weigh_b64 F cs1 u0 = some (cs9, r9) → ∀ (H : Heap) (locs : List Loc) (ls : Array Slot), va_P (dC, dI) vwCl (cW cB cI cJ cZ cS cO b cs1) H → va_D A (cW cB cI cJ cZ cS cO b cs1) → va_S A s.heap H locs → lv_has ls 4 [(0, .ref (b + u0))] → W p l e (headSpec (wsOf yX1_weigh cX1_weigh 4 (some .int)) ({ frames := 2, cells := 0, slots := 0, locals := 60 * (2) } : Room)).room s m ([.ref (b + x0), .int x1, .int x2, .int x3] : List Value).toArray below meth c H locs 0 0 (MQ below (va_Qi (fun (x : Int32) (_ : Unit) => x = r9) (fun _ t_ => va_P (dC, dI) vwCl (cW cB cI cJ cZ cS cO b cs9) t_.heap ∧ va_D A (cW cB cI cJ cZ cS cO b cs9)) A) ([.ref (b + x0), .int x1, .int x2, .int x3] : List Value).toArray s 0 0 A) (F0 m 64 ls []) := by
    intro cs1 u0 h H locs ls hP hD hS hl
    unfold c_X1_weigh_b64 at h
    refine lv_aload_n hx hb dX1_weigh_64 rfl (lv_at hl 0 rfl) ?_
    replace h := ob h; obtain ⟨w_2, hw_2, h⟩ := h
    replace h := ob h; obtain ⟨v_1, hv_1, h⟩ := h
    refine ccI (As := []) hx hb hml hts hown hK hP hD hS hA hZ (X := 2) (by decide) rfl (ckE_some hw_2) (sc_X1_resultBlank l dC dI cB cI cJ cZ cS cO b K V fz F cs1 u0 v_1 hv_1) (cw_X1_X1_resultBlank hts (fr := 0) (Nat.le_of_ble_eq_true rfl) (Nat.le_of_ble_eq_true rfl)) rfl hl.1 (Nat.le_of_ble_eq_true rfl) ⟨Nat.zero_le _, Nat.zero_le _⟩ dX1_weigh_65 (fun H locs hP hD hS => ?_)
    refine lv_if_eq (tgt := 75) hx hb dX1_weigh_68 (by decide) (fun c_3 => ?_) (fun c_3 => ?_)
    · skip
      replace h := (if_pos c_3).symm.trans h
      refine lv_aload_n hx hb dX1_weigh_75 rfl (lv_at hl 0 rfl) ?_
      replace h := ob h; obtain ⟨w_5, hw_5, h⟩ := h
      replace h := ob h; obtain ⟨v_4, hv_4, h⟩ := h
      refine ccL (As := []) hx hb hml hts hown hK hP hD hS hA hZ (X := 2) (by decide) rfl (ckE_some hw_5) (sc_X1_resultValue l dC dI cB cI cJ cZ cS cO b K V fz F cs1 u0 v_4 hv_4) (cw_X1_X1_resultValue hts (fr := 0) (Nat.le_of_ble_eq_true rfl) (Nat.le_of_ble_eq_true rfl)) rfl hl.1 (Nat.le_of_ble_eq_true rfl) ⟨Nat.zero_le _, Nat.zero_le _⟩ dX1_weigh_76 (fun H locs hP hD hS => ?_)
      refine lv_l2i hx hb dX1_weigh_79 rfl ?_
      exact B_80 cs1 v_4.toInt32 h _ _ _ hP hD hS (lv_sub hl [] rfl)
    · skip
      replace h := (if_neg c_3).symm.trans h
      refine lv_iconst (v := (-1)) hx hb dX1_weigh_71 (by decide) ?_
      refine lv_goto (tgt := 80) hx hb dX1_weigh_72 (by decide) ?_
      exact B_80 cs1 (-1) h _ _ _ hP hD hS (lv_sub hl [] rfl)
  have B_56 : ∀ (cs1 : CS) (u0 : Nat) (u1 : Int32) (y0 : Int32) (y1 : Int64) (y2 : Nat), c_X1_weigh_b56 F cs1 u0 u1 y0 y1 y2 = some (cs9, r9) → ∀ (H : Heap) (locs : List Loc) (ls : Array Slot), va_P (dC, dI) vwCl (cW cB cI cJ cZ cS cO b cs1) H → va_D A (cW cB cI cJ cZ cS cO b cs1) → va_S A s.heap H locs → lv_has ls 4 [(0, .ref (b + u0)), (1, .int u1)] → W p l e (headSpec (wsOf yX1_weigh cX1_weigh 4 (some .int)) ({ frames := 2, cells := 0, slots := 0, locals := 60 * (2) } : Room)).room s m ([.ref (b + x0), .int x1, .int x2, .int x3] : List Value).toArray below meth c H locs 0 0 (MQ below (va_Qi (fun (x : Int32) (_ : Unit) => x = r9) (fun _ t_ => va_P (dC, dI) vwCl (cW cB cI cJ cZ cS cO b cs9) t_.heap ∧ va_D A (cW cB cI cJ cZ cS cO b cs9)) A) ([.ref (b + x0), .int x1, .int x2, .int x3] : List Value).toArray s 0 0 A) (F0 m 56 ls [.int y0, .long y1, .ref (b + y2)]) := by
    intro cs1 u0 u1 y0 y1 y2 h H locs ls hP hD hS hl
    unfold c_X1_weigh_b56 at h
    replace h := ob h; obtain ⟨w_7, hw_7, h⟩ := h
    replace h := ob h; obtain ⟨cs_6, hv_6, h⟩ := h
    refine ccV (As := [.long y1, .int y0]) hx hb hml hts hown hK hP hD hS hA hZ (X := 2) (by decide) rfl (ckE_some hw_7) (sc_X1_push l dC dI cB cI cJ cZ cS cO b K V fz F cs1 y2 y1 y0 cs_6 hv_6) (cw_X1_X1_push hts (fr := 0) (Nat.le_of_ble_eq_true rfl) (Nat.le_of_ble_eq_true rfl)) rfl hl.1 (Nat.le_of_ble_eq_true rfl) ⟨Nat.zero_le _, Nat.zero_le _⟩ dX1_weigh_56 (fun H locs hP hD hS => ?_)
    refine lv_aload_n hx hb dX1_weigh_59 rfl (lv_at hl 0 rfl) ?_
    refine lv_iload_n hx hb dX1_weigh_60 rfl (lv_at hl 1 rfl) ?_
    replace h := ob h; obtain ⟨w_9, hw_9, h⟩ := h
    replace h := ob h; obtain ⟨cs_8, hv_8, h⟩ := h
    refine ccV (As := [.int u1]) hx hb hml hts hown hK hP hD hS hA hZ (X := 2) (by decide) rfl (ckE_some hw_9) (sc_X1_two l dC dI cB cI cJ cZ cS cO b K V fz F cs_6 u0 u1 cs_8 hv_8) (cw_X1_X1_two hts (fr := 1) (Nat.le_of_ble_eq_true rfl) (Nat.le_of_ble_eq_true rfl)) rfl hl.1 (Nat.le_of_ble_eq_true rfl) ⟨Nat.zero_le _, Nat.zero_le _⟩ dX1_weigh_61 (fun H locs hP hD hS => ?_)
    exact B_64 cs_8 u0 h _ _ _ hP hD hS (lv_sub hl [0] rfl)
  have B_51 : ∀ (cs1 : CS) (u0 : Nat) (u1 : Int32) (y0 : Int64) (y1 : Nat), c_X1_weigh_b51 F cs1 u0 u1 y0 y1 = some (cs9, r9) → ∀ (H : Heap) (locs : List Loc) (ls : Array Slot), va_P (dC, dI) vwCl (cW cB cI cJ cZ cS cO b cs1) H → va_D A (cW cB cI cJ cZ cS cO b cs1) → va_S A s.heap H locs → lv_has ls 4 [(0, .ref (b + u0)), (1, .int u1)] → W p l e (headSpec (wsOf yX1_weigh cX1_weigh 4 (some .int)) ({ frames := 2, cells := 0, slots := 0, locals := 60 * (2) } : Room)).room s m ([.ref (b + x0), .int x1, .int x2, .int x3] : List Value).toArray below meth c H locs 0 0 (MQ below (va_Qi (fun (x : Int32) (_ : Unit) => x = r9) (fun _ t_ => va_P (dC, dI) vwCl (cW cB cI cJ cZ cS cO b cs9) t_.heap ∧ va_D A (cW cB cI cJ cZ cS cO b cs9)) A) ([.ref (b + x0), .int x1, .int x2, .int x3] : List Value).toArray s 0 0 A) (F0 m 51 ls [.long y0, .ref (b + y1)]) := by
    intro cs1 u0 u1 y0 y1 h H locs ls hP hD hS hl
    unfold c_X1_weigh_b51 at h
    refine lv_iconst (v := 0) hx hb dX1_weigh_51 (by decide) ?_
    refine lv_goto (tgt := 56) hx hb dX1_weigh_52 (by decide) ?_
    exact B_56 cs1 u0 u1 0 y0 y1 h _ _ _ hP hD hS (lv_sub hl [0, 1] rfl)
  have B_22 : ∀ (cs1 : CS) (u0 : Nat) (u1 : Int32) (u3 : Int32) (y0 : Int32) (y1 : Int64) (y2 : Nat), c_X1_weigh_b22 F cs1 u0 u1 u3 y0 y1 y2 = some (cs9, r9) → ∀ (H : Heap) (locs : List Loc) (ls : Array Slot), va_P (dC, dI) vwCl (cW cB cI cJ cZ cS cO b cs1) H → va_D A (cW cB cI cJ cZ cS cO b cs1) → va_S A s.heap H locs → lv_has ls 4 [(0, .ref (b + u0)), (1, .int u1), (3, .int u3)] → W p l e (headSpec (wsOf yX1_weigh cX1_weigh 4 (some .int)) ({ frames := 2, cells := 0, slots := 0, locals := 60 * (2) } : Room)).room s m ([.ref (b + x0), .int x1, .int x2, .int x3] : List Value).toArray below meth c H locs 0 0 (MQ below (va_Qi (fun (x : Int32) (_ : Unit) => x = r9) (fun _ t_ => va_P (dC, dI) vwCl (cW cB cI cJ cZ cS cO b cs9) t_.heap ∧ va_D A (cW cB cI cJ cZ cS cO b cs9)) A) ([.ref (b + x0), .int x1, .int x2, .int x3] : List Value).toArray s 0 0 A) (F0 m 22 ls [.int y0, .long y1, .ref (b + y2)]) := by
    intro cs1 u0 u1 u3 y0 y1 y2 h H locs ls hP hD hS hl
    unfold c_X1_weigh_b22 at h
    replace h := ob h; obtain ⟨w_11, hw_11, h⟩ := h
    replace h := ob h; obtain ⟨cs_10, hv_10, h⟩ := h
    refine ccV (As := [.long y1, .int y0]) hx hb hml hts hown hK hP hD hS hA hZ (X := 2) (by decide) rfl (ckE_some hw_11) (sc_X1_push l dC dI cB cI cJ cZ cS cO b K V fz F cs1 y2 y1 y0 cs_10 hv_10) (cw_X1_X1_push hts (fr := 0) (Nat.le_of_ble_eq_true rfl) (Nat.le_of_ble_eq_true rfl)) rfl hl.1 (Nat.le_of_ble_eq_true rfl) ⟨Nat.zero_le _, Nat.zero_le _⟩ dX1_weigh_22 (fun H locs hP hD hS => ?_)
    refine lv_iload_n hx hb dX1_weigh_25 rfl (lv_at hl 1 rfl) ?_
    refine lv_bipush (v := 25) hx hb dX1_weigh_26 (by decide) ?_
    refine lv_icmp_ne (tgt := 39) hx hb dX1_weigh_28 (by decide) (fun c_12 => ?_) (fun c_12 => ?_)
    · skip
      replace h := (if_neg c_12).symm.trans h
      refine lv_aload_n hx hb dX1_weigh_39 rfl (lv_at hl 0 rfl) ?_
      refine lv_iload_n hx hb dX1_weigh_40 rfl (lv_at hl 2 rfl) ?_
      refine lv_i2l hx hb dX1_weigh_41 rfl ?_
      refine lv_iload_n hx hb dX1_weigh_42 rfl (lv_at hl 2 rfl) ?_
      refine lv_if_eq (tgt := 51) hx hb dX1_weigh_43 (by decide) (fun c_13 => ?_) (fun c_13 => ?_)
      · skip
        replace h := (if_pos c_13).symm.trans h
        exact B_51 cs_10 u0 u1 ((u3 : Int32).toInt64) u0 h _ _ _ hP hD hS (lv_sub hl [0, 1] rfl)
      · skip
        replace h := (if_neg c_13).symm.trans h
        refine lv_iload_n hx hb dX1_weigh_46 rfl (lv_at hl 2 rfl) ?_
        refine lv_iconst (v := 1) hx hb dX1_weigh_47 (by decide) ?_
        refine lv_icmp_ne (tgt := 55) hx hb dX1_weigh_48 (by decide) (fun c_14 => ?_) (fun c_14 => ?_)
        · skip
          replace h := (if_neg c_14).symm.trans h
          refine lv_iconst (v := 1) hx hb dX1_weigh_55 (by decide) ?_
          exact B_56 cs_10 u0 u1 1 ((u3 : Int32).toInt64) u0 h _ _ _ hP hD hS (lv_sub hl [0, 1] rfl)
        · skip
          replace h := (if_pos c_14).symm.trans h
          exact B_51 cs_10 u0 u1 ((u3 : Int32).toInt64) u0 h _ _ _ hP hD hS (lv_sub hl [0, 1] rfl)
    · skip
      replace h := (if_pos c_12).symm.trans h
      refine lv_aload_n hx hb dX1_weigh_31 rfl (lv_at hl 0 rfl) ?_
      refine lv_iload_n hx hb dX1_weigh_32 rfl (lv_at hl 1 rfl) ?_
      replace h := ob h; obtain ⟨w_16, hw_16, h⟩ := h
      replace h := ob h; obtain ⟨cs_15, hv_15, h⟩ := h
      refine ccV (As := [.int u1]) hx hb hml hts hown hK hP hD hS hA hZ (X := 2) (by decide) rfl (ckE_some hw_16) (sc_X1_one l dC dI cB cI cJ cZ cS cO b K V fz F cs_10 u0 u1 cs_15 hv_15) (cw_X1_X1_one hts (fr := 1) (Nat.le_of_ble_eq_true rfl) (Nat.le_of_ble_eq_true rfl)) rfl hl.1 (Nat.le_of_ble_eq_true rfl) ⟨Nat.zero_le _, Nat.zero_le _⟩ dX1_weigh_33 (fun H locs hP hD hS => ?_)
      refine lv_goto (tgt := 64) hx hb dX1_weigh_36 (by decide) ?_
      exact B_64 cs_15 u0 h _ _ _ hP hD hS (lv_sub hl [0] rfl)
  have B_17 : ∀ (cs1 : CS) (u0 : Nat) (u1 : Int32) (u3 : Int32) (y0 : Int64) (y1 : Nat), c_X1_weigh_b17 F cs1 u0 u1 u3 y0 y1 = some (cs9, r9) → ∀ (H : Heap) (locs : List Loc) (ls : Array Slot), va_P (dC, dI) vwCl (cW cB cI cJ cZ cS cO b cs1) H → va_D A (cW cB cI cJ cZ cS cO b cs1) → va_S A s.heap H locs → lv_has ls 4 [(0, .ref (b + u0)), (1, .int u1), (3, .int u3)] → W p l e (headSpec (wsOf yX1_weigh cX1_weigh 4 (some .int)) ({ frames := 2, cells := 0, slots := 0, locals := 60 * (2) } : Room)).room s m ([.ref (b + x0), .int x1, .int x2, .int x3] : List Value).toArray below meth c H locs 0 0 (MQ below (va_Qi (fun (x : Int32) (_ : Unit) => x = r9) (fun _ t_ => va_P (dC, dI) vwCl (cW cB cI cJ cZ cS cO b cs9) t_.heap ∧ va_D A (cW cB cI cJ cZ cS cO b cs9)) A) ([.ref (b + x0), .int x1, .int x2, .int x3] : List Value).toArray s 0 0 A) (F0 m 17 ls [.long y0, .ref (b + y1)]) := by
    intro cs1 u0 u1 u3 y0 y1 h H locs ls hP hD hS hl
    unfold c_X1_weigh_b17 at h
    refine lv_iconst (v := 0) hx hb dX1_weigh_17 (by decide) ?_
    refine lv_goto (tgt := 22) hx hb dX1_weigh_18 (by decide) ?_
    exact B_22 cs1 u0 u1 u3 0 y0 y1 h _ _ _ hP hD hS (lv_sub hl [0, 1, 2] rfl)
  have h := hf
  unfold c_X1_weigh at h
  refine lv_aload_n hx hb dX1_weigh_0 rfl (lv_at hl 0 rfl) ?_
  refine lv_iconst (v := 0) hx hb dX1_weigh_1 (by decide) ?_
  replace h := ob h; obtain ⟨cs_17, hv_17, h⟩ := h
  refine fp_X1_59 hx hb hts hown hK hP hD hS hv_17 dX1_weigh_2 (fun H locs hP hD hS => ?_)
  refine lv_aload_n hx hb dX1_weigh_5 rfl (lv_at hl 0 rfl) ?_
  refine lv_iload_n hx hb dX1_weigh_6 rfl (lv_at hl 2 rfl) ?_
  refine lv_i2l hx hb dX1_weigh_7 rfl ?_
  refine lv_iload_n hx hb dX1_weigh_8 rfl (lv_at hl 2 rfl) ?_
  refine lv_if_eq (tgt := 17) hx hb dX1_weigh_9 (by decide) (fun c_18 => ?_) (fun c_18 => ?_)
  · skip
    replace h := (if_pos c_18).symm.trans h
    exact B_17 cs_17 x0 x1 x3 ((x2 : Int32).toInt64) x0 h _ _ _ hP hD hS (lv_sub hl [0, 1, 3] rfl)
  · skip
    replace h := (if_neg c_18).symm.trans h
    refine lv_iload_n hx hb dX1_weigh_12 rfl (lv_at hl 2 rfl) ?_
    refine lv_iconst (v := 1) hx hb dX1_weigh_13 (by decide) ?_
    refine lv_icmp_ne (tgt := 21) hx hb dX1_weigh_14 (by decide) (fun c_19 => ?_) (fun c_19 => ?_)
    · skip
      replace h := (if_neg c_19).symm.trans h
      refine lv_iconst (v := 1) hx hb dX1_weigh_21 (by decide) ?_
      exact B_22 cs_17 x0 x1 x3 1 ((x2 : Int32).toInt64) x0 h _ _ _ hP hD hS (lv_sub hl [0, 1, 3] rfl)
    · skip
      replace h := (if_pos c_19).symm.trans h
      exact B_17 cs_17 x0 x1 x3 ((x2 : Int32).toInt64) x0 h _ _ _ hP hD hS (lv_sub hl [0, 1, 3] rfl)
