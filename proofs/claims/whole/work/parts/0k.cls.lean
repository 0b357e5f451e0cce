/-! the class, mirrored -/
theorem dX0_init_0 : decode cX0_init 0 = .ok (.aload_n 0, 1) := by decide +kernel
theorem dX0_init_1 : decode cX0_init 1 = .ok (.invokespecial 3, 3) := by decide +kernel
theorem dX0_init_4 : decode cX0_init 4 = .ok (.aload_n 0, 1) := by decide +kernel
theorem dX0_init_5 : decode cX0_init 5 = .ok (.aload_n 1, 1) := by decide +kernel
theorem dX0_init_6 : decode cX0_init 6 = .ok (.putfield 9, 3) := by decide +kernel
theorem dX0_init_9 : decode cX0_init 9 = .ok (.aload_n 0, 1) := by decide +kernel
theorem dX0_init_10 : decode cX0_init 10 = .ok (.aload_n 2, 1) := by decide +kernel
theorem dX0_init_11 : decode cX0_init 11 = .ok (.putfield 15, 3) := by decide +kernel
theorem dX0_init_14 : decode cX0_init 14 = .ok (.aload_n 0, 1) := by decide +kernel
theorem dX0_init_15 : decode cX0_init 15 = .ok (.aload_n 1, 1) := by decide +kernel
theorem dX0_init_16 : decode cX0_init 16 = .ok (.getfield 19, 3) := by decide +kernel
theorem dX0_init_19 : decode cX0_init 19 = .ok (.putfield 25, 3) := by decide +kernel
theorem dX0_init_22 : decode cX0_init 22 = .ok (.return_, 1) := by decide +kernel
def c_X0_init (F : Nat) (cs : CS) (x0 : Nat) (x1 : Nat) (x2 : Nat) : Option CS := Option.bind (pR cs 1 32 x0 (some x1)) fun cs_1 => Option.bind (pR cs_1 1 33 x0 (some x2)) fun cs_2 => Option.bind (gR cs_2 10 322 x1) fun v_3 => Option.bind (pR cs_2 1 34 x0 v_3) fun cs_4 => some cs_4
theorem cw_X11_X0_init {R : Room} {s : State} {args : Array Value} {y0 : MethodName} {c0 : ByteArray} {n0 : Nat} {r0 : Option FieldType} (hts : ∀ w ∈ wsOf y0 c0 n0 r0, w.before args s = true) {fr mc ms : Nat} (h1 : fr + 1 ≤ R.frames) (h2 : 8 + (3 + 11) + 60 * fr ≤ R.locals) : CallB R s args RX11 87 yX0_init cX0_init 3 none (wsOf yX0_init cX0_init 3 none) ({ frames := fr, cells := mc, slots := ms, locals := 60 * fr } : Room) mc ms 2 ∧ yX0_init.name = "<init>" ∧ (Cond.instanceMethod yX0_init).before args s = true := cwI 2 hts (gd_all (in_I kc_X0_init)) rfl rfl rfl (hts _ (List.mem_cons_of_mem _ kw_204)) (hts _ (List.mem_cons_of_mem _ kw_1147)) (hts _ (List.mem_cons_of_mem _ kw_1148)) rfl (by decide +kernel) ⟨h1, h2⟩
set_option maxHeartbeats 4000000 in
set_option maxRecDepth 100000 in
theorem sc_X0_init (l : Launch) (dC : Nat → ClassId) (dI : Nat → Nat → Nat) (cB cI cJ cZ cS cO : ClassId) (b : Nat) (K V : Nat → Nat) (fz : Value) (F : Nat) (cs : CS) (x0 : Nat) (x1 : Nat) (x2 : Nat) (cs9 : CS) (hf : c_X0_init F cs x0 x1 x2 = some cs9) : ocV l dC dI cB cI cJ cZ cS cO b K V fz yX0_init (wsOf yX0_init cX0_init 3 none) (1) [.ref (b + x0), .ref (b + x1), .ref (b + x2)] cs cs9 := by
  intro sz
  refine Met.ofW (cc := cX0_init) (maxL := 3) (ret := none) (by decide) rfl ?_
  intro p e s m args below meth c s₁ B hml hv
  obtain ⟨rfl, hsz, hP, hK, hD0, hZ⟩ := hv
  have hx := B.exec
  have hb := B.bytes
  have hr := B.returns
  have hts := atoms_spec (ws := (wsOf yX0_init cX0_init 3 none)) B.pre
  have hown : s.vm.findClass RX0 = some m.cls := findClass_of_methodNamed B.named
  have hin : meth.name = "<init>" := (name_of_methodNamed B.named B.method).1
  have hlocks := B.notSynchronized
  subst hsz
  have hD := hD0.self (sz := s.heap.size)
  generalize hAe : va_A (cW cB cI cJ cZ cS cO b cs) s.heap.size = A at hD hZ ⊢
  have hA : ∀ q : Nat, s.heap.size ≤ q → A q := fun q h => by rw [← hAe]; exact Or.inr h
  have hS : va_S A s.heap s.heap [] := va_S.rf
  have hl := lv_entry ([.ref (b + x0), .ref (b + x1), .ref (b + x2)]) (n := 3) (Nat.le_of_ble_eq_true rfl)
  rw [lg_entry_eq]
  generalize (lg_sl ([.ref (b + x0), .ref (b + x1), .ref (b + x2)]) ++ List.replicate (3 - (lg_sl ([.ref (b + x0), .ref (b + x1), .ref (b + x2)])).length) Slot.unset).toArray = ls at hl ⊢
  have hl : lv_has ls 3 [(0, .ref (b + x0)), (1, .ref (b + x1)), (2, .ref (b + x2))] := hl
  have h := hf
  unfold c_X0_init at h
  refine lv_aload_n hx hb dX0_init_0 rfl (lv_at hl 0 rfl) ?_
  refine W.objInit hx hb hown (hts _ (List.mem_cons_of_mem _ kw_1150)) (hts _ (List.mem_cons_of_mem _ kw_214)) (hts _ (List.mem_cons_of_mem _ kc_objectInit)) rfl (by rw [hml]; exact hl.1) rfl dX0_init_1 (Nat.le_of_ble_eq_true rfl) (Nat.le_of_ble_eq_true rfl) ?_
  refine W.eq (g2 := F0 m 4 ls []) rfl ?_
  refine lv_aload_n hx hb dX0_init_4 rfl (lv_at hl 0 rfl) ?_
  refine lv_aload_n hx hb dX0_init_5 rfl (lv_at hl 1 rfl) ?_
  replace h := ob h; obtain ⟨cs_1, hv_1, h⟩ := h
  refine fp_X0_9 (v := (some x1)) hx hb hts hown hK hP hD hS hin hv_1 dX0_init_6 (fun H locs hP hD hS => ?_)
  refine lv_aload_n hx hb dX0_init_9 rfl (lv_at hl 0 rfl) ?_
  refine lv_aload_n hx hb dX0_init_10 rfl (lv_at hl 2 rfl) ?_
  replace h := ob h; obtain ⟨cs_2, hv_2, h⟩ := h
  refine fp_X0_15 (v := (some x2)) hx hb hts hown hK hP hD hS hin hv_2 dX0_init_11 (fun H locs hP hD hS => ?_)
  refine lv_aload_n hx hb dX0_init_14 rfl (lv_at hl 0 rfl) ?_
  refine lv_aload_n hx hb dX0_init_15 rfl (lv_at hl 1 rfl) ?_
  replace h := ob h; obtain ⟨v_3, hv_3, h⟩ := h
  refine fg_X0_19 hx hb hts hown hK hP hv_3 dX0_init_16 ?_
  replace h := ob h; obtain ⟨cs_4, hv_4, h⟩ := h
  refine fp_X0_25 (v := v_3) hx hb hts hown hK hP hD hS hin hv_4 dX0_init_19 (fun H locs hP hD hS => ?_)
  have e1 := Option.some.inj h
  rw [e1] at hP hD
  exact W.vret hx hb hr (fun t_ ht hW => ⟨⟨(), rfl, trivial, by rw [ht]; exact hP, hD⟩, hS.F ht⟩) hS.2.2 dX0_init_22
theorem dX0_isFaulty_0 : decode cX0_isFaulty 0 = .ok (.aload_n 0, 1) := by decide +kernel
theorem dX0_isFaulty_1 : decode cX0_isFaulty 1 = .ok (.getfield 9, 3) := by decide +kernel
theorem dX0_isFaulty_4 : decode cX0_isFaulty 4 = .ok (.getfield 26, 3) := by decide +kernel
theorem dX0_isFaulty_7 : decode cX0_isFaulty 7 = .ok (.ifCond .eq 7, 3) := by decide +kernel
theorem dX0_isFaulty_10 : decode cX0_isFaulty 10 = .ok (.iconst 1, 1) := by decide +kernel
theorem dX0_isFaulty_11 : decode cX0_isFaulty 11 = .ok (.goto 4, 3) := by decide +kernel
theorem dX0_isFaulty_14 : decode cX0_isFaulty 14 = .ok (.iconst 0, 1) := by decide +kernel
theorem dX0_isFaulty_15 : decode cX0_isFaulty 15 = .ok (.ireturn, 1) := by decide +kernel
def c_X0_isFaulty_b15 (F : Nat) (cs : CS) (y0 : Int32) : Option Int32 := Option.bind (ckZ y0) fun _ => some y0
def c_X0_isFaulty (F : Nat) (cs : CS) (x0 : Nat) : Option Int32 := Option.bind (gR cs 1 32 x0) fun v_2 => Option.bind (v_2) fun i_3 => Option.bind (gI cs 10 320 i_3) fun v_4 => if v_4 = 0 then (c_X0_isFaulty_b15 F cs 0) else (c_X0_isFaulty_b15 F cs 1)
theorem cw_X0_X0_isFaulty {R : Room} {s : State} {args : Array Value} {y0 : MethodName} {c0 : ByteArray} {n0 : Nat} {r0 : Option FieldType} (hts : ∀ w ∈ wsOf y0 c0 n0 r0, w.before args s = true) {fr : Nat} (h1 : fr + 1 ≤ R.frames) (h2 : 8 + (1 + 11) + 60 * fr ≤ R.locals) : CallW R s args RX0 RX0 42 yX0_isFaulty cX0_isFaulty 1 (some .boolean) (wsOf yX0_isFaulty cX0_isFaulty 1 (some .boolean)) ({ frames := fr, cells := 0, slots := 0, locals := 60 * fr } : Room) 0 0 0 := cwV 0 hts (gd_all (in_V kw_1178 kw_1180 kw_46 kw_204 kc_X0_isFaulty)) rfl rfl rfl (by decide +kernel) ⟨h1, h2⟩
set_option maxHeartbeats 4000000 in
set_option maxRecDepth 100000 in
theorem sc_X0_isFaulty (l : Launch) (dC : Nat → ClassId) (dI : Nat → Nat → Nat) (cB cI cJ cZ cS cO : ClassId) (b : Nat) (K V : Nat → Nat) (fz : Value) (F : Nat) (cs : CS) (x0 : Nat) (r9 : Int32) (hf : c_X0_isFaulty F cs x0 = some r9) : ocI l dC dI cB cI cJ cZ cS cO b K V fz yX0_isFaulty (wsOf yX0_isFaulty cX0_isFaulty 1 (some .boolean)) (0) [.ref (b + x0)] cs cs r9 := by
  intro sz
  refine Met.ofW (cc := cX0_isFaulty) (maxL := 1) (ret := (some .boolean)) (by decide) rfl ?_
  intro p e s m args below meth c s₁ B hml hv
  obtain ⟨rfl, hsz, hP, hK, hD0, hZ⟩ := hv
  have hx := B.exec
  have hb := B.bytes
  have hr := B.returns
  have hts := atoms_spec (ws := (wsOf yX0_isFaulty cX0_isFaulty 1 (some .boolean))) B.pre
  have hown : s.vm.findClass RX0 = some m.cls := findClass_of_methodNamed B.named
  have hlocks := B.notSynchronized
  subst hsz
  have hD := hD0.self (sz := s.heap.size)
  generalize hAe : va_A (cW cB cI cJ cZ cS cO b cs) s.heap.size = A at hD hZ ⊢
  have hA : ∀ q : Nat, s.heap.size ≤ q → A q := fun q h => by rw [← hAe]; exact Or.inr h
  have hS : va_S A s.heap s.heap [] := va_S.rf
  have hl := lv_entry ([.ref (b + x0)]) (n := 1) (Nat.le_of_ble_eq_true rfl)
  rw [lg_entry_eq]
  generalize (lg_sl ([.ref (b + x0)]) ++ List.replicate (1 - (lg_sl ([.ref (b + x0)])).length) Slot.unset).toArray = ls at hl ⊢
  have hl : lv_has ls 1 [(0, .ref (b + x0))] := hl
  have B_15 : ∀ (y0 : Int32), c_X0_isFaulty_b15 F cs y0 = some r9 → ∀ (H : Heap) (locs : List Loc) (ls : Array Slot), va_P (dC, dI) vwCl (cW cB cI cJ cZ cS cO b cs) H → va_D A (cW cB cI cJ cZ cS cO b cs) → va_S A s.heap H locs → lv_has ls 1 [] → W p l e (headSpec (wsOf yX0_isFaulty cX0_isFaulty 1 (some .boolean)) ({ frames := 0, cells := 0, slots := 0, locals := 60 * (0) } : Room)).room s m ([.ref (b + x0)] : List Value).toArray below meth c H locs 0 0 (MQ below (va_Qi (fun (x : Int32) (_ : Unit) => x = r9) (fun _ t_ => va_P (dC, dI) vwCl (cW cB cI cJ cZ cS cO b cs) t_.heap ∧ va_D A (cW cB cI cJ cZ cS cO b cs)) A) ([.ref (b + x0)] : List Value).toArray s 0 0 A) (F0 m 15 ls [.int y0]) := by
    intro y0 h H locs ls hP hD hS hl
    unfold c_X0_isFaulty_b15 at h
    replace h := ob h; obtain ⟨w_1, hw_1, h⟩ := h
    have e2 := Option.some.inj h
    exact W.zret (v := y0) hx hb hr (nzN (ckZ_some hw_1)) (fun t_ ht hW => ⟨⟨y0, (), rfl, e2, by rw [ht]; exact hP, hD⟩, hS.F ht⟩) hS.2.2 dX0_isFaulty_15
  have h := hf
  unfold c_X0_isFaulty at h
  refine lv_aload_n hx hb dX0_isFaulty_0 rfl (lv_at hl 0 rfl) ?_
  replace h := ob h; obtain ⟨v_2, hv_2, h⟩ := h
  refine fg_X0_9 hx hb hts hown hK hP hv_2 dX0_isFaulty_1 ?_
  replace h := ob h; obtain ⟨i_3, hi_3, h⟩ := h
  subst hi_3
  replace h := ob h; obtain ⟨v_4, hv_4, h⟩ := h
  refine fg_X0_26 hx hb hts hown hK hP hv_4 dX0_isFaulty_4 ?_
  refine lv_if_eq (tgt := 14) hx hb dX0_isFaulty_7 (by decide) (fun c_5 => ?_) (fun c_5 => ?_)
  · skip
    replace h := (if_pos c_5).symm.trans h
    refine lv_iconst (v := 0) hx hb dX0_isFaulty_14 (by decide) ?_
    exact B_15 0 h _ _ _ hP hD hS (lv_sub hl [] rfl)
  · skip
    replace h := (if_neg c_5).symm.trans h
    refine lv_iconst (v := 1) hx hb dX0_isFaulty_10 (by decide) ?_
    refine lv_goto (tgt := 15) hx hb dX0_isFaulty_11 (by decide) ?_
    exact B_15 1 h _ _ _ hP hD hS (lv_sub hl [] rfl)
theorem dX0_checkLeaf_0 : decode cX0_checkLeaf 0 = .ok (.aload_n 0, 1) := by decide +kernel
theorem dX0_checkLeaf_1 : decode cX0_checkLeaf 1 = .ok (.getfield 15, 3) := by decide +kernel
theorem dX0_checkLeaf_4 : decode cX0_checkLeaf 4 = .ok (.aload_n 1, 1) := by decide +kernel
theorem dX0_checkLeaf_5 : decode cX0_checkLeaf 5 = .ok (.getfield 191, 3) := by decide +kernel
theorem dX0_checkLeaf_8 : decode cX0_checkLeaf 8 = .ok (.invokevirtual 194, 3) := by decide +kernel
theorem dX0_checkLeaf_11 : decode cX0_checkLeaf 11 = .ok (.ifCond .ne 16, 3) := by decide +kernel
theorem dX0_checkLeaf_14 : decode cX0_checkLeaf 14 = .ok (.aload_n 0, 1) := by decide +kernel
theorem dX0_checkLeaf_15 : decode cX0_checkLeaf 15 = .ok (.getfield 9, 3) := by decide +kernel
theorem dX0_checkLeaf_18 : decode cX0_checkLeaf 18 = .ok (.iconst 2, 1) := by decide +kernel
theorem dX0_checkLeaf_19 : decode cX0_checkLeaf 19 = .ok (.aload_n 1, 1) := by decide +kernel
theorem dX0_checkLeaf_20 : decode cX0_checkLeaf 20 = .ok (.getfield 200, 3) := by decide +kernel
theorem dX0_checkLeaf_23 : decode cX0_checkLeaf 23 = .ok (.invokevirtual 76, 3) := by decide +kernel
theorem dX0_checkLeaf_26 : decode cX0_checkLeaf 26 = .ok (.return_, 1) := by decide +kernel
theorem dX0_checkLeaf_27 : decode cX0_checkLeaf 27 = .ok (.iconst 1, 1) := by decide +kernel
theorem dX0_checkLeaf_28 : decode cX0_checkLeaf 28 = .ok (.istore_n 2, 1) := by decide +kernel
theorem dX0_checkLeaf_29 : decode cX0_checkLeaf 29 = .ok (.iload_n 2, 1) := by decide +kernel
theorem dX0_checkLeaf_30 : decode cX0_checkLeaf 30 = .ok (.aload_n 0, 1) := by decide +kernel
theorem dX0_checkLeaf_31 : decode cX0_checkLeaf 31 = .ok (.getfield 15, 3) := by decide +kernel
theorem dX0_checkLeaf_34 : decode cX0_checkLeaf 34 = .ok (.aload_n 1, 1) := by decide +kernel
theorem dX0_checkLeaf_35 : decode cX0_checkLeaf 35 = .ok (.getfield 191, 3) := by decide +kernel
theorem dX0_checkLeaf_38 : decode cX0_checkLeaf 38 = .ok (.invokevirtual 203, 3) := by decide +kernel
theorem dX0_checkLeaf_41 : decode cX0_checkLeaf 41 = .ok (.if_icmp .gt 21, 3) := by decide +kernel
theorem dX0_checkLeaf_44 : decode cX0_checkLeaf 44 = .ok (.aload_n 1, 1) := by decide +kernel
theorem dX0_checkLeaf_45 : decode cX0_checkLeaf 45 = .ok (.getfield 183, 3) := by decide +kernel
theorem dX0_checkLeaf_48 : decode cX0_checkLeaf 48 = .ok (.iconst (-1), 1) := by decide +kernel
theorem dX0_checkLeaf_49 : decode cX0_checkLeaf 49 = .ok (.iload_n 2, 1) := by decide +kernel
theorem dX0_checkLeaf_50 : decode cX0_checkLeaf 50 = .ok (.i2l, 1) := by decide +kernel
theorem dX0_checkLeaf_51 : decode cX0_checkLeaf 51 = .ok (.iconst 0, 1) := by decide +kernel
theorem dX0_checkLeaf_52 : decode cX0_checkLeaf 52 = .ok (.iconst 1, 1) := by decide +kernel
theorem dX0_checkLeaf_53 : decode cX0_checkLeaf 53 = .ok (.invokevirtual 207, 3) := by decide +kernel
theorem dX0_checkLeaf_56 : decode cX0_checkLeaf 56 = .ok (.iinc 2 1, 3) := by decide +kernel
theorem dX0_checkLeaf_59 : decode cX0_checkLeaf 59 = .ok (.goto (-30), 3) := by decide +kernel
theorem dX0_checkLeaf_62 : decode cX0_checkLeaf 62 = .ok (.aload_n 1, 1) := by decide +kernel
theorem dX0_checkLeaf_63 : decode cX0_checkLeaf 63 = .ok (.getfield 183, 3) := by decide +kernel
theorem dX0_checkLeaf_66 : decode cX0_checkLeaf 66 = .ok (.iconst (-1), 1) := by decide +kernel
theorem dX0_checkLeaf_67 : decode cX0_checkLeaf 67 = .ok (.lconst 0, 1) := by decide +kernel
theorem dX0_checkLeaf_68 : decode cX0_checkLeaf 68 = .ok (.iconst 0, 1) := by decide +kernel
theorem dX0_checkLeaf_69 : decode cX0_checkLeaf 69 = .ok (.iconst 1, 1) := by decide +kernel
theorem dX0_checkLeaf_70 : decode cX0_checkLeaf 70 = .ok (.invokevirtual 207, 3) := by decide +kernel
theorem dX0_checkLeaf_73 : decode cX0_checkLeaf 73 = .ok (.return_, 1) := by decide +kernel
def c_X0_checkLeaf_L29 (F : Nat) : Nat → CS → Nat → Nat → Int32 → Option CS
  | 0, _, _, _, _ => none
  | lf_29 + 1, cs1, u0, u1, u2 => Option.bind (gR cs1 1 33 u0) fun v_1 => Option.bind (gI cs1 7 224 u1) fun v_2 => Option.bind (v_1) fun i_4 => Option.bind (ckE cs1 8 i_4) fun _ => Option.bind (c_X7_columnCount F cs1 i_4 v_2) fun v_3 => if v_3 < u2 then (Option.bind (gR cs1 7 235 u1) fun v_7 => Option.bind (v_7) fun i_9 => Option.bind (ckE cs1 3 i_9) fun _ => Option.bind (c_X2_add F cs1 i_9 (-1) 0 0 1) fun cs_8 => some cs_8) else (Option.bind (gR cs1 7 235 u1) fun v_11 => Option.bind (v_11) fun i_13 => Option.bind (ckE cs1 3 i_13) fun _ => Option.bind (c_X2_add F cs1 i_13 (-1) ((u2 : Int32).toInt64) 0 1) fun cs_12 => (c_X0_checkLeaf_L29 F lf_29) cs_12 u0 u1 (u2 + 1))
def c_X0_checkLeaf (F : Nat) (cs : CS) (x0 : Nat) (x1 : Nat) : Option CS := Option.bind (gR cs 1 33 x0) fun v_15 => Option.bind (gI cs 7 224 x1) fun v_16 => Option.bind (v_15) fun i_18 => Option.bind (ckE cs 8 i_18) fun _ => Option.bind (c_X7_exists F cs i_18 v_16) fun v_17 => if v_17 = 0 then (Option.bind (gR cs 1 32 x0) fun v_21 => Option.bind (gI cs 7 226 x1) fun v_22 => Option.bind (v_21) fun i_24 => Option.bind (ckE cs 10 i_24) fun _ => Option.bind (c_X9_refuse F cs i_24 2 v_22) fun cs_23 => some cs_23) else (c_X0_checkLeaf_L29 F F cs x0 x1 1)
theorem cw_X0_X0_checkLeaf {R : Room} {s : State} {args : Array Value} {y0 : MethodName} {c0 : ByteArray} {n0 : Nat} {r0 : Option FieldType} (hts : ∀ w ∈ wsOf y0 c0 n0 r0, w.before args s = true) {fr : Nat} (h1 : fr + 1 ≤ R.frames) (h2 : 8 + (3 + 11) + 60 * fr ≤ R.locals) : CallW R s args RX0 RX0 163 yX0_checkLeaf cX0_checkLeaf 3 none (wsOf yX0_checkLeaf cX0_checkLeaf 3 none) ({ frames := fr, cells := 0, slots := 0, locals := 60 * fr } : Room) 0 0 1 := cwV 1 hts (gd_all (in_V kw_1224 kw_1226 kw_50 kw_204 kc_X0_checkLeaf)) rfl rfl rfl (by decide +kernel) ⟨h1, h2⟩
set_option maxHeartbeats 4000000 in
set_option maxRecDepth 100000 in
theorem sc_X0_checkLeaf (l : Launch) (dC : Nat → ClassId) (dI : Nat → Nat → Nat) (cB cI cJ cZ cS cO : ClassId) (b : Nat) (K V : Nat → Nat) (fz : Value) (F : Nat) (cs : CS) (x0 : Nat) (x1 : Nat) (cs9 : CS) (hf : c_X0_checkLeaf F cs x0 x1 = some cs9) : ocV l dC dI cB cI cJ cZ cS cO b K V fz yX0_checkLeaf (wsOf yX0_checkLeaf cX0_checkLeaf 3 none) (2) [.ref (b + x0), .ref (b + x1)] cs cs9 := by
  intro sz
  refine Met.ofW (cc := cX0_checkLeaf) (maxL := 3) (ret := none) (by decide) rfl ?_
  intro p e s m args below meth c s₁ B hml hv
  obtain ⟨rfl, hsz, hP, hK, hD0, hZ⟩ := hv
  have hx := B.exec
  have hb := B.bytes
  have hr := B.returns
  have hts := atoms_spec (ws := (wsOf yX0_checkLeaf cX0_checkLeaf 3 none)) B.pre
  have hown : s.vm.findClass RX0 = some m.cls := findClass_of_methodNamed B.named
  have hlocks := B.notSynchronized
  subst hsz
  have hD := hD0.self (sz := s.heap.size)
  generalize hAe : va_A (cW cB cI cJ cZ cS cO b cs) s.heap.size = A at hD hZ ⊢
  have hA : ∀ q : Nat, s.heap.size ≤ q → A q := fun q h => by rw [← hAe]; exact Or.inr h
  have hS : va_S A s.heap s.heap [] := va_S.rf
  have hl := lv_entry ([.ref (b + x0), .ref (b + x1)]) (n := 3) (Nat.le_of_ble_eq_true rfl)
  rw [lg_entry_eq]
  generalize (lg_sl ([.ref (b + x0), .ref (b + x1)]) ++ List.replicate (3 - (lg_sl ([.ref (b + x0), .ref (b + x1)])).length) Slot.unset).toArray = ls at hl ⊢
  have hl : lv_has ls 3 [(0, .ref (b + x0)), (1, .ref (b + x1))] := hl
  have L_29 : ∀ (lf_29 : Nat), ∀ (cs1 : CS) (u0 : Nat) (u1 : Nat) (u2 : Int32), c_X0_checkLeaf_L29 F lf_29 cs1 u0 u1 u2 = some cs9 → ∀ (H : Heap) (locs : List Loc) (ls : Array Slot), va_P (dC, dI) vwCl (cW cB cI cJ cZ cS cO b cs1) H → va_D A (cW cB cI cJ cZ cS cO b cs1) → va_S A s.heap H locs → lv_has ls 3 [(0, .ref (b + u0)), (1, .ref (b + u1)), (2, .int u2)] → W p l e (headSpec (wsOf yX0_checkLeaf cX0_checkLeaf 3 none) ({ frames := 2, cells := 0, slots := 0, locals := 60 * (2) } : Room)).room s m ([.ref (b + x0), .ref (b + x1)] : List Value).toArray below meth c H locs 0 0 (MQ below (va_Qv (fun (_ : Unit) => True) (fun _ t_ => va_P (dC, dI) vwCl (cW cB cI cJ cZ cS cO b cs9) t_.heap ∧ va_D A (cW cB cI cJ cZ cS cO b cs9)) A) ([.ref (b + x0), .ref (b + x1)] : List Value).toArray s 0 0 A) (F0 m 29 ls []) := by
    intro lf_29
    induction lf_29 with
    | zero => intro cs1 u0 u1 u2 h; cases (show (none : Option CS) = _ from h)
    | succ lf_29 ih_29 =>
      intro cs1 u0 u1 u2 h H locs ls hP hD hS hl
      rw [c_X0_checkLeaf_L29] at h
      refine lv_iload_n hx hb dX0_checkLeaf_29 rfl (lv_at hl 2 rfl) ?_
      refine lv_aload_n hx hb dX0_checkLeaf_30 rfl (lv_at hl 0 rfl) ?_
      replace h := ob h; obtain ⟨v_1, hv_1, h⟩ := h
      refine fg_X0_15 hx hb hts hown hK hP hv_1 dX0_checkLeaf_31 ?_
      refine lv_aload_n hx hb dX0_checkLeaf_34 rfl (lv_at hl 1 rfl) ?_
      replace h := ob h; obtain ⟨v_2, hv_2, h⟩ := h
      refine fg_X0_191 hx hb hts hown hK hP hv_2 dX0_checkLeaf_35 ?_
      replace h := ob h; obtain ⟨i_4, hi_4, h⟩ := h
      subst hi_4
      replace h := ob h; obtain ⟨w_5, hw_5, h⟩ := h
      replace h := ob h; obtain ⟨v_3, hv_3, h⟩ := h
      refine ccI (As := [.int v_2]) hx hb hml hts hown hK hP hD hS hA hZ (X := 8) (by decide) rfl (ckE_some hw_5) (sc_X7_columnCount l dC dI cB cI cJ cZ cS cO b K V fz F cs1 i_4 v_2 v_3 hv_3) (cw_X0_X7_columnCount hts (fr := 1) (Nat.le_of_ble_eq_true rfl) (Nat.le_of_ble_eq_true rfl)) rfl hl.1 (Nat.le_of_ble_eq_true rfl) ⟨Nat.zero_le _, Nat.zero_le _⟩ dX0_checkLeaf_38 (fun H locs hP hD hS => ?_)
      refine lv_icmp_gt (tgt := 62) hx hb dX0_checkLeaf_41 (by decide) (fun c_6 => ?_) (fun c_6 => ?_)
      · skip
        replace h := (if_pos c_6).symm.trans h
        refine lv_aload_n hx hb dX0_checkLeaf_62 rfl (lv_at hl 1 rfl) ?_
        replace h := ob h; obtain ⟨v_7, hv_7, h⟩ := h
        refine fg_X0_183 hx hb hts hown hK hP hv_7 dX0_checkLeaf_63 ?_
        refine lv_iconst (v := (-1)) hx hb dX0_checkLeaf_66 (by decide) ?_
        refine lv_lconst (v := 0) hx hb dX0_checkLeaf_67 (by decide) ?_
        refine lv_iconst (v := 0) hx hb dX0_checkLeaf_68 (by decide) ?_
        refine lv_iconst (v := 1) hx hb dX0_checkLeaf_69 (by decide) ?_
        replace h := ob h; obtain ⟨i_9, hi_9, h⟩ := h
        subst hi_9
        replace h := ob h; obtain ⟨w_10, hw_10, h⟩ := h
        replace h := ob h; obtain ⟨cs_8, hv_8, h⟩ := h
        refine ccV (As := [.int (-1), .long 0, .int 0, .int 1]) hx hb hml hts hown hK hP hD hS hA hZ (X := 3) (by decide) rfl (ckE_some hw_10) (sc_X2_add l dC dI cB cI cJ cZ cS cO b K V fz F cs1 i_9 (-1) 0 0 1 cs_8 hv_8) (cw_X0_X2_add hts (fr := 1) (Nat.le_of_ble_eq_true rfl) (Nat.le_of_ble_eq_true rfl)) rfl hl.1 (Nat.le_of_ble_eq_true rfl) ⟨Nat.zero_le _, Nat.zero_le _⟩ dX0_checkLeaf_70 (fun H locs hP hD hS => ?_)
        have e1 := Option.some.inj h
        rw [e1] at hP hD
        exact W.vret hx hb hr (fun t_ ht hW => ⟨⟨(), rfl, trivial, by rw [ht]; exact hP, hD⟩, hS.F ht⟩) hS.2.2 dX0_checkLeaf_73
      · skip
        replace h := (if_neg c_6).symm.trans h
        refine lv_aload_n hx hb dX0_checkLeaf_44 rfl (lv_at hl 1 rfl) ?_
        replace h := ob h; obtain ⟨v_11, hv_11, h⟩ := h
        refine fg_X0_183 hx hb hts hown hK hP hv_11 dX0_checkLeaf_45 ?_
        refine lv_iconst (v := (-1)) hx hb dX0_checkLeaf_48 (by decide) ?_
        refine lv_iload_n hx hb dX0_checkLeaf_49 rfl (lv_at hl 2 rfl) ?_
        refine lv_i2l hx hb dX0_checkLeaf_50 rfl ?_
        refine lv_iconst (v := 0) hx hb dX0_checkLeaf_51 (by decide) ?_
        refine lv_iconst (v := 1) hx hb dX0_checkLeaf_52 (by decide) ?_
        replace h := ob h; obtain ⟨i_13, hi_13, h⟩ := h
        subst hi_13
        replace h := ob h; obtain ⟨w_14, hw_14, h⟩ := h
        replace h := ob h; obtain ⟨cs_12, hv_12, h⟩ := h
        refine ccV (As := [.int (-1), .long ((u2 : Int32).toInt64), .int 0, .int 1]) hx hb hml hts hown hK hP hD hS hA hZ (X := 3) (by decide) rfl (ckE_some hw_14) (sc_X2_add l dC dI cB cI cJ cZ cS cO b K V fz F cs1 i_13 (-1) ((u2 : Int32).toInt64) 0 1 cs_12 hv_12) (cw_X0_X2_add hts (fr := 1) (Nat.le_of_ble_eq_true rfl) (Nat.le_of_ble_eq_true rfl)) rfl hl.1 (Nat.le_of_ble_eq_true rfl) ⟨Nat.zero_le _, Nat.zero_le _⟩ dX0_checkLeaf_53 (fun H locs hP hD hS => ?_)
        refine lv_iinc (v := u2 + 1) (lv' := [(2, .int (u2 + 1)), (0, .ref (b + u0)), (1, .ref (b + u1))]) hx hb dX0_checkLeaf_56 hl (k := 2) rfl rfl (by decide) rfl (fun ls hl => ?_)
        refine lv_goto (tgt := 29) hx hb dX0_checkLeaf_59 (by decide) ?_
        exact ih_29 cs_12 u0 u1 (u2 + 1) h _ _ _ hP hD hS (lv_sub hl [1, 2, 0] rfl)
  have h := hf
  unfold c_X0_checkLeaf at h
  refine lv_aload_n hx hb dX0_checkLeaf_0 rfl (lv_at hl 0 rfl) ?_
  replace h := ob h; obtain ⟨v_15, hv_15, h⟩ := h
  refine fg_X0_15 hx hb hts hown hK hP hv_15 dX0_checkLeaf_1 ?_
  refine lv_aload_n hx hb dX0_checkLeaf_4 rfl (lv_at hl 1 rfl) ?_
  replace h := ob h; obtain ⟨v_16, hv_16, h⟩ := h
  refine fg_X0_191 hx hb hts hown hK hP hv_16 dX0_checkLeaf_5 ?_
  replace h := ob h; obtain ⟨i_18, hi_18, h⟩ := h
  subst hi_18
  replace h := ob h; obtain ⟨w_19, hw_19, h⟩ := h
  replace h := ob h; obtain ⟨v_17, hv_17, h⟩ := h
  refine ccI (As := [.int v_16]) hx hb hml hts hown hK hP hD hS hA hZ (X := 8) (by decide) rfl (ckE_some hw_19) (sc_X7_exists l dC dI cB cI cJ cZ cS cO b K V fz F cs i_18 v_16 v_17 hv_17) (cw_X0_X7_exists hts (fr := 0) (Nat.le_of_ble_eq_true rfl) (Nat.le_of_ble_eq_true rfl)) rfl hl.1 (Nat.le_of_ble_eq_true rfl) ⟨Nat.zero_le _, Nat.zero_le _⟩ dX0_checkLeaf_8 (fun H locs hP hD hS => ?_)
  refine lv_if_ne (tgt := 27) hx hb dX0_checkLeaf_11 (by decide) (fun c_20 => ?_) (fun c_20 => ?_)
  · skip
    replace h := (if_neg c_20).symm.trans h
    refine lv_iconst (v := 1) hx hb dX0_checkLeaf_27 (by decide) ?_
    refine lv_istore_n (lv' := [(2, .int 1), (0, .ref (b + x0)), (1, .ref (b + x1))]) hx hb dX0_checkLeaf_28 rfl hl (by decide) rfl (fun ls hl => ?_)
    exact L_29 F cs x0 x1 1 h _ _ _ hP hD hS (lv_sub hl [1, 2, 0] rfl)
  · skip
    replace h := (if_pos c_20).symm.trans h
    refine lv_aload_n hx hb dX0_checkLeaf_14 rfl (lv_at hl 0 rfl) ?_
    replace h := ob h; obtain ⟨v_21, hv_21, h⟩ := h
    refine fg_X0_9 hx hb hts hown hK hP hv_21 dX0_checkLeaf_15 ?_
    refine lv_iconst (v := 2) hx hb dX0_checkLeaf_18 (by decide) ?_
    refine lv_aload_n hx hb dX0_checkLeaf_19 rfl (lv_at hl 1 rfl) ?_
    replace h := ob h; obtain ⟨v_22, hv_22, h⟩ := h
    refine fg_X0_200 hx hb hts hown hK hP hv_22 dX0_checkLeaf_20 ?_
    replace h := ob h; obtain ⟨i_24, hi_24, h⟩ := h
    subst hi_24
    replace h := ob h; obtain ⟨w_25, hw_25, h⟩ := h
    replace h := ob h; obtain ⟨cs_23, hv_23, h⟩ := h
    refine ccV (As := [.int 2, .int v_22]) hx hb hml hts hown hK hP hD hS hA hZ (X := 10) (by decide) rfl (ckE_some hw_25) (sc_X9_refuse l dC dI cB cI cJ cZ cS cO b K V fz F cs i_24 2 v_22 cs_23 hv_23) (cw_X0_X9_refuse hts (fr := 0) (Nat.le_of_ble_eq_true rfl) (Nat.le_of_ble_eq_true rfl)) rfl hl.1 (Nat.le_of_ble_eq_true rfl) ⟨Nat.zero_le _, Nat.zero_le _⟩ dX0_checkLeaf_23 (fun H locs hP hD hS => ?_)
    have e1 := Option.some.inj h
    rw [e1] at hP hD
    exact W.vret hx hb hr (fun t_ ht hW => ⟨⟨(), rfl, trivial, by rw [ht]; exact hP, hD⟩, hS.F ht⟩) hS.2.2 dX0_checkLeaf_26
theorem dX0_checkBound_0 : decode cX0_checkBound 0 = .ok (.iload_n 1, 1) := by decide +kernel
theorem dX0_checkBound_1 : decode cX0_checkBound 1 = .ok (.ifCond .eq 22, 3) := by decide +kernel
theorem dX0_checkBound_4 : decode cX0_checkBound 4 = .ok (.aload_n 0, 1) := by decide +kernel
theorem dX0_checkBound_5 : decode cX0_checkBound 5 = .ok (.getfield 9, 3) := by decide +kernel
theorem dX0_checkBound_8 : decode cX0_checkBound 8 = .ok (.getfield 73, 3) := by decide +kernel
theorem dX0_checkBound_11 : decode cX0_checkBound 11 = .ok (.ifCond .ne 12, 3) := by decide +kernel
theorem dX0_checkBound_14 : decode cX0_checkBound 14 = .ok (.aload_n 0, 1) := by decide +kernel
theorem dX0_checkBound_15 : decode cX0_checkBound 15 = .ok (.getfield 9, 3) := by decide +kernel
theorem dX0_checkBound_18 : decode cX0_checkBound 18 = .ok (.iconst 5, 1) := by decide +kernel
theorem dX0_checkBound_19 : decode cX0_checkBound 19 = .ok (.iload_n 2, 1) := by decide +kernel
theorem dX0_checkBound_20 : decode cX0_checkBound 20 = .ok (.invokevirtual 76, 3) := by decide +kernel
theorem dX0_checkBound_23 : decode cX0_checkBound 23 = .ok (.return_, 1) := by decide +kernel
def c_X0_checkBound_b23 (F : Nat) (cs1 : CS) : Option CS := some cs1
def c_X0_checkBound (F : Nat) (cs : CS) (x0 : Nat) (x1 : Int32) (x2 : Int32) : Option CS := if x1 = 0 then (c_X0_checkBound_b23 F cs) else (Option.bind (gR cs 1 32 x0) fun v_2 => Option.bind (v_2) fun i_3 => Option.bind (gI cs 10 324 i_3) fun v_4 => if v_4 = 0 then (Option.bind (gR cs 1 32 x0) fun v_6 => Option.bind (v_6) fun i_8 => Option.bind (ckE cs 10 i_8) fun _ => Option.bind (c_X9_refuse F cs i_8 5 x2) fun cs_7 => c_X0_checkBound_b23 F cs_7) else (c_X0_checkBound_b23 F cs))
theorem cw_X0_X0_checkBound {R : Room} {s : State} {args : Array Value} {y0 : MethodName} {c0 : ByteArray} {n0 : Nat} {r0 : Option FieldType} (hts : ∀ w ∈ wsOf y0 c0 n0 r0, w.before args s = true) {fr : Nat} (h1 : fr + 1 ≤ R.frames) (h2 : 8 + (3 + 11) + 60 * fr ≤ R.locals) : CallW R s args RX0 RX0 86 yX0_checkBound cX0_checkBound 3 none (wsOf yX0_checkBound cX0_checkBound 3 none) ({ frames := fr, cells := 0, slots := 0, locals := 60 * fr } : Room) 0 0 2 := cwV 2 hts (gd_all (in_V kw_1237 kw_1239 kw_51 kw_204 kc_X0_checkBound)) rfl rfl rfl (by decide +kernel) ⟨h1, h2⟩
set_option maxHeartbeats 4000000 in
set_option maxRecDepth 100000 in
theorem sc_X0_checkBound (l : Launch) (dC : Nat → ClassId) (dI : Nat → Nat → Nat) (cB cI cJ cZ cS cO : ClassId) (b : Nat) (K V : Nat → Nat) (fz : Value) (F : Nat) (cs : CS) (x0 : Nat) (x1 : Int32) (x2 : Int32) (cs9 : CS) (hf : c_X0_checkBound F cs x0 x1 x2 = some cs9) : ocV l dC dI cB cI cJ cZ cS cO b K V fz yX0_checkBound (wsOf yX0_checkBound cX0_checkBound 3 none) (1) [.ref (b + x0), .int x1, .int x2] cs cs9 := by
  intro sz
  refine Met.ofW (cc := cX0_checkBound) (maxL := 3) (ret := none) (by decide) rfl ?_
  intro p e s m args below meth c s₁ B hml hv
  obtain ⟨rfl, hsz, hP, hK, hD0, hZ⟩ := hv
  have hx := B.exec
  have hb := B.bytes
  have hr := B.returns
  have hts := atoms_spec (ws := (wsOf yX0_checkBound cX0_checkBound 3 none)) B.pre
  have hown : s.vm.findClass RX0 = some m.cls := findClass_of_methodNamed B.named
  have hlocks := B.notSynchronized
  subst hsz
  have hD := hD0.self (sz := s.heap.size)
  generalize hAe : va_A (cW cB cI cJ cZ cS cO b cs) s.heap.size = A at hD hZ ⊢
  have hA : ∀ q : Nat, s.heap.size ≤ q → A q := fun q h => by rw [← hAe]; exact Or.inr h
  have hS : va_S A s.heap s.heap [] := va_S.rf
  have hl := lv_entry ([.ref (b + x0), .int x1, .int x2]) (n := 3) (Nat.le_of_ble_eq_true rfl)
  rw [lg_entry_eq]
  generalize (lg_sl ([.ref (b + x0), .int x1, .int x2]) ++ List.replicate (3 - (lg_sl ([.ref (b + x0), .int x1, .int x2])).length) Slot.unset).toArray = ls at hl ⊢
  have hl : lv_has ls 3 [(0, .ref (b + x0)), (1, .int x1), (2, .int x2)] := hl
  have B_23 : ∀ (cs1 : CS) , c_X0_checkBound_b23 F cs1 = some cs9 → ∀ (H : Heap) (locs : List Loc) (ls : Array Slot), va_P (dC, dI) vwCl (cW cB cI cJ cZ cS cO b cs1) H → va_D A (cW cB cI cJ cZ cS cO b cs1) → va_S A s.heap H locs → lv_has ls 3 [] → W p l e (headSpec (wsOf yX0_checkBound cX0_checkBound 3 none) ({ frames := 1, cells := 0, slots := 0, locals := 60 * (1) } : Room)).room s m ([.ref (b + x0), .int x1, .int x2] : List Value).toArray below meth c H locs 0 0 (MQ below (va_Qv (fun (_ : Unit) => True) (fun _ t_ => va_P (dC, dI) vwCl (cW cB cI cJ cZ cS cO b cs9) t_.heap ∧ va_D A (cW cB cI cJ cZ cS cO b cs9)) A) ([.ref (b + x0), .int x1, .int x2] : List Value).toArray s 0 0 A) (F0 m 23 ls []) := by
    intro cs1  h H locs ls hP hD hS hl
    unfold c_X0_checkBound_b23 at h
    have e1 := Option.some.inj h
    rw [e1] at hP hD
    exact W.vret hx hb hr (fun t_ ht hW => ⟨⟨(), rfl, trivial, by rw [ht]; exact hP, hD⟩, hS.F ht⟩) hS.2.2 dX0_checkBound_23
  have h := hf
  unfold c_X0_checkBound at h
  refine lv_iload_n hx hb dX0_checkBound_0 rfl (lv_at hl 1 rfl) ?_
  refine lv_if_eq (tgt := 23) hx hb dX0_checkBound_1 (by decide) (fun c_1 => ?_) (fun c_1 => ?_)
  · skip
    replace h := (if_pos c_1).symm.trans h
    exact B_23 cs h _ _ _ hP hD hS (lv_sub hl [] rfl)
  · skip
    replace h := (if_neg c_1).symm.trans h
    refine lv_aload_n hx hb dX0_checkBound_4 rfl (lv_at hl 0 rfl) ?_
    replace h := ob h; obtain ⟨v_2, hv_2, h⟩ := h
    refine fg_X0_9 hx hb hts hown hK hP hv_2 dX0_checkBound_5 ?_
    replace h := ob h; obtain ⟨i_3, hi_3, h⟩ := h
    subst hi_3
    replace h := ob h; obtain ⟨v_4, hv_4, h⟩ := h
    refine fg_X0_73 hx hb hts hown hK hP hv_4 dX0_checkBound_8 ?_
    refine lv_if_ne (tgt := 23) hx hb dX0_checkBound_11 (by decide) (fun c_5 => ?_) (fun c_5 => ?_)
    · skip
      replace h := (if_neg c_5).symm.trans h
      exact B_23 cs h _ _ _ hP hD hS (lv_sub hl [] rfl)
    · skip
      replace h := (if_pos c_5).symm.trans h
      refine lv_aload_n hx hb dX0_checkBound_14 rfl (lv_at hl 0 rfl) ?_
      replace h := ob h; obtain ⟨v_6, hv_6, h⟩ := h
      refine fg_X0_9 hx hb hts hown hK hP hv_6 dX0_checkBound_15 ?_
      refine lv_iconst (v := 5) hx hb dX0_checkBound_18 (by decide) ?_
      refine lv_iload_n hx hb dX0_checkBound_19 rfl (lv_at hl 2 rfl) ?_
      replace h := ob h; obtain ⟨i_8, hi_8, h⟩ := h
      subst hi_8
      replace h := ob h; obtain ⟨w_9, hw_9, h⟩ := h
      replace h := ob h; obtain ⟨cs_7, hv_7, h⟩ := h
      refine ccV (As := [.int 5, .int x2]) hx hb hml hts hown hK hP hD hS hA hZ (X := 10) (by decide) rfl (ckE_some hw_9) (sc_X9_refuse l dC dI cB cI cJ cZ cS cO b K V fz F cs i_8 5 x2 cs_7 hv_7) (cw_X0_X9_refuse hts (fr := 0) (Nat.le_of_ble_eq_true rfl) (Nat.le_of_ble_eq_true rfl)) rfl hl.1 (Nat.le_of_ble_eq_true rfl) ⟨Nat.zero_le _, Nat.zero_le _⟩ dX0_checkBound_20 (fun H locs hP hD hS => ?_)
      exact B_23 cs_7 h _ _ _ hP hD hS (lv_sub hl [] rfl)
theorem dX0_wantParts_0 : decode cX0_wantParts 0 = .ok (.iconst (-1), 1) := by decide +kernel
theorem dX0_wantParts_1 : decode cX0_wantParts 1 = .ok (.istore 4, 2) := by decide +kernel
theorem dX0_wantParts_3 : decode cX0_wantParts 3 = .ok (.iload_n 1, 1) := by decide +kernel
theorem dX0_wantParts_4 : decode cX0_wantParts 4 = .ok (.iconst 1, 1) := by decide +kernel
theorem dX0_wantParts_5 : decode cX0_wantParts 5 = .ok (.isub, 1) := by decide +kernel
theorem dX0_wantParts_6 : decode cX0_wantParts 6 = .ok (.istore 5, 2) := by decide +kernel
theorem dX0_wantParts_8 : decode cX0_wantParts 8 = .ok (.iconst 0, 1) := by decide +kernel
theorem dX0_wantParts_9 : decode cX0_wantParts 9 = .ok (.istore 6, 2) := by decide +kernel
theorem dX0_wantParts_11 : decode cX0_wantParts 11 = .ok (.iload 6, 2) := by decide +kernel
theorem dX0_wantParts_13 : decode cX0_wantParts 13 = .ok (.aload_n 0, 1) := by decide +kernel
theorem dX0_wantParts_14 : decode cX0_wantParts 14 = .ok (.getfield 25, 3) := by decide +kernel
theorem dX0_wantParts_17 : decode cX0_wantParts 17 = .ok (.getfield 309, 3) := by decide +kernel
theorem dX0_wantParts_20 : decode cX0_wantParts 20 = .ok (.iload_n 1, 1) := by decide +kernel
theorem dX0_wantParts_21 : decode cX0_wantParts 21 = .ok (.iaload, 1) := by decide +kernel
theorem dX0_wantParts_22 : decode cX0_wantParts 22 = .ok (.if_icmp .ge 54, 3) := by decide +kernel
theorem dX0_wantParts_25 : decode cX0_wantParts 25 = .ok (.aload_n 0, 1) := by decide +kernel
theorem dX0_wantParts_26 : decode cX0_wantParts 26 = .ok (.getfield 25, 3) := by decide +kernel
theorem dX0_wantParts_29 : decode cX0_wantParts 29 = .ok (.iload 5, 2) := by decide +kernel
theorem dX0_wantParts_31 : decode cX0_wantParts 31 = .ok (.invokevirtual 243, 3) := by decide +kernel
theorem dX0_wantParts_34 : decode cX0_wantParts 34 = .ok (.ifCond .eq 42, 3) := by decide +kernel
theorem dX0_wantParts_37 : decode cX0_wantParts 37 = .ok (.aload_n 0, 1) := by decide +kernel
theorem dX0_wantParts_38 : decode cX0_wantParts 38 = .ok (.getfield 25, 3) := by decide +kernel
theorem dX0_wantParts_41 : decode cX0_wantParts 41 = .ok (.getfield 271, 3) := by decide +kernel
theorem dX0_wantParts_44 : decode cX0_wantParts 44 = .ok (.iload 5, 2) := by decide +kernel
theorem dX0_wantParts_46 : decode cX0_wantParts 46 = .ok (.iaload, 1) := by decide +kernel
theorem dX0_wantParts_47 : decode cX0_wantParts 47 = .ok (.iload_n 2, 1) := by decide +kernel
theorem dX0_wantParts_48 : decode cX0_wantParts 48 = .ok (.iand, 1) := by decide +kernel
theorem dX0_wantParts_49 : decode cX0_wantParts 49 = .ok (.ifCond .ne 7, 3) := by decide +kernel
theorem dX0_wantParts_52 : decode cX0_wantParts 52 = .ok (.iload 5, 2) := by decide +kernel
theorem dX0_wantParts_54 : decode cX0_wantParts 54 = .ok (.istore 4, 2) := by decide +kernel
theorem dX0_wantParts_56 : decode cX0_wantParts 56 = .ok (.aload_n 0, 1) := by decide +kernel
theorem dX0_wantParts_57 : decode cX0_wantParts 57 = .ok (.getfield 25, 3) := by decide +kernel
theorem dX0_wantParts_60 : decode cX0_wantParts 60 = .ok (.getfield 272, 3) := by decide +kernel
theorem dX0_wantParts_63 : decode cX0_wantParts 63 = .ok (.iload 5, 2) := by decide +kernel
theorem dX0_wantParts_65 : decode cX0_wantParts 65 = .ok (.iaload, 1) := by decide +kernel
theorem dX0_wantParts_66 : decode cX0_wantParts 66 = .ok (.iconst 1, 1) := by decide +kernel
theorem dX0_wantParts_67 : decode cX0_wantParts 67 = .ok (.isub, 1) := by decide +kernel
theorem dX0_wantParts_68 : decode cX0_wantParts 68 = .ok (.istore 5, 2) := by decide +kernel
theorem dX0_wantParts_70 : decode cX0_wantParts 70 = .ok (.iinc 6 1, 3) := by decide +kernel
theorem dX0_wantParts_73 : decode cX0_wantParts 73 = .ok (.goto (-62), 3) := by decide +kernel
theorem dX0_wantParts_76 : decode cX0_wantParts 76 = .ok (.aload_n 0, 1) := by decide +kernel
theorem dX0_wantParts_77 : decode cX0_wantParts 77 = .ok (.getfield 25, 3) := by decide +kernel
theorem dX0_wantParts_80 : decode cX0_wantParts 80 = .ok (.iload 4, 2) := by decide +kernel
theorem dX0_wantParts_82 : decode cX0_wantParts 82 = .ok (.invokevirtual 243, 3) := by decide +kernel
theorem dX0_wantParts_85 : decode cX0_wantParts 85 = .ok (.ifCond .eq 21, 3) := by decide +kernel
theorem dX0_wantParts_88 : decode cX0_wantParts 88 = .ok (.aload_n 0, 1) := by decide +kernel
theorem dX0_wantParts_89 : decode cX0_wantParts 89 = .ok (.getfield 9, 3) := by decide +kernel
theorem dX0_wantParts_92 : decode cX0_wantParts 92 = .ok (.iconst 4, 1) := by decide +kernel
theorem dX0_wantParts_93 : decode cX0_wantParts 93 = .ok (.aload_n 0, 1) := by decide +kernel
theorem dX0_wantParts_94 : decode cX0_wantParts 94 = .ok (.getfield 25, 3) := by decide +kernel
theorem dX0_wantParts_97 : decode cX0_wantParts 97 = .ok (.getfield 246, 3) := by decide +kernel
theorem dX0_wantParts_100 : decode cX0_wantParts 100 = .ok (.iload 4, 2) := by decide +kernel
theorem dX0_wantParts_102 : decode cX0_wantParts 102 = .ok (.iaload, 1) := by decide +kernel
theorem dX0_wantParts_103 : decode cX0_wantParts 103 = .ok (.invokevirtual 76, 3) := by decide +kernel
theorem dX0_wantParts_106 : decode cX0_wantParts 106 = .ok (.aload_n 0, 1) := by decide +kernel
theorem dX0_wantParts_107 : decode cX0_wantParts 107 = .ok (.getfield 25, 3) := by decide +kernel
theorem dX0_wantParts_110 : decode cX0_wantParts 110 = .ok (.getfield 271, 3) := by decide +kernel
theorem dX0_wantParts_113 : decode cX0_wantParts 113 = .ok (.iload_n 1, 1) := by decide +kernel
theorem dX0_wantParts_114 : decode cX0_wantParts 114 = .ok (.iload_n 3, 1) := by decide +kernel
theorem dX0_wantParts_115 : decode cX0_wantParts 115 = .ok (.iastore, 1) := by decide +kernel
theorem dX0_wantParts_116 : decode cX0_wantParts 116 = .ok (.return_, 1) := by decide +kernel
def c_X0_wantParts_b106 (F : Nat) (cs1 : CS) (u0 : Nat) (u1 : Int32) (u3 : Int32) : Option CS := Option.bind (gR cs1 1 34 u0) fun v_1 => Option.bind (v_1) fun i_2 => Option.bind (gA cs1 2 73 i_2) fun v_3 => Option.bind (wA cs1 73 i_2 v_3 u1 u3) fun cs_4 => some cs_4
def c_X0_wantParts_b76 (F : Nat) (cs1 : CS) (u0 : Nat) (u1 : Int32) (u3 : Int32) (u4 : Int32) : Option CS := Option.bind (gR cs1 1 34 u0) fun v_5 => Option.bind (v_5) fun i_7 => Option.bind (ckE cs1 2 i_7) fun _ => Option.bind (c_X1_has F cs1 i_7 u4) fun v_6 => if v_6 = 0 then (c_X0_wantParts_b106 F cs1 u0 u1 u3) else (Option.bind (gR cs1 1 32 u0) fun v_10 => Option.bind (gR cs1 1 34 u0) fun v_11 => Option.bind (v_11) fun i_12 => Option.bind (gA cs1 2 66 i_12) fun v_13 => Option.bind (rA cs1 66 i_12 v_13 u4) fun v_14 => Option.bind (v_10) fun i_16 => Option.bind (ckE cs1 10 i_16) fun _ => Option.bind (c_X9_refuse F cs1 i_16 4 v_14) fun cs_15 => c_X0_wantParts_b106 F cs_15 u0 u1 u3)
def c_X0_wantParts_b56 (F : Nat) (rc11 : CS → Nat → Int32 → Int32 → Int32 → Int32 → Int32 → Int32 → Option CS) (cs1 : CS) (u0 : Nat) (u1 : Int32) (u2 : Int32) (u3 : Int32) (u4 : Int32) (u5 : Int32) (u6 : Int32) : Option CS := Option.bind (gR cs1 1 34 u0) fun v_18 => Option.bind (v_18) fun i_19 => Option.bind (gA cs1 2 67 i_19) fun v_20 => Option.bind (rA cs1 67 i_19 v_20 u5) fun v_21 => rc11 cs1 u0 u1 u2 u3 u4 (v_21 - 1) (u6 + 1)
def c_X0_wantParts_L11 (F : Nat) : Nat → CS → Nat → Int32 → Int32 → Int32 → Int32 → Int32 → Int32 → Option CS
  | 0, _, _, _, _, _, _, _, _ => none
  | lf_11 + 1, cs1, u0, u1, u2, u3, u4, u5, u6 => Option.bind (gR cs1 1 34 u0) fun v_22 => Option.bind (v_22) fun i_23 => Option.bind (gA cs1 2 68 i_23) fun v_24 => Option.bind (rA cs1 68 i_23 v_24 u1) fun v_25 => if v_25 ≤ u6 then (c_X0_wantParts_b76 F cs1 u0 u1 u3 u4) else (Option.bind (gR cs1 1 34 u0) fun v_27 => Option.bind (v_27) fun i_29 => Option.bind (ckE cs1 2 i_29) fun _ => Option.bind (c_X1_has F cs1 i_29 u5) fun v_28 => if v_28 = 0 then (c_X0_wantParts_b76 F cs1 u0 u1 u3 u4) else (Option.bind (gR cs1 1 34 u0) fun v_32 => Option.bind (v_32) fun i_33 => Option.bind (gA cs1 2 73 i_33) fun v_34 => Option.bind (rA cs1 73 i_33 v_34 u5) fun v_35 => if (v_35 &&& u2) = 0 then (c_X0_wantParts_b56 F (c_X0_wantParts_L11 F lf_11) cs1 u0 u1 u2 u3 u5 u5 u6) else (c_X0_wantParts_b56 F (c_X0_wantParts_L11 F lf_11) cs1 u0 u1 u2 u3 u4 u5 u6)))
def c_X0_wantParts (F : Nat) (cs : CS) (x0 : Nat) (x1 : Int32) (x2 : Int32) (x3 : Int32) : Option CS := c_X0_wantParts_L11 F F cs x0 x1 x2 x3 (-1) (x1 - 1) 0
theorem cw_X0_X0_wantParts {R : Room} {s : State} {args : Array Value} {y0 : MethodName} {c0 : ByteArray} {n0 : Nat} {r0 : Option FieldType} (hts : ∀ w ∈ wsOf y0 c0 n0 r0, w.before args s = true) {fr : Nat} (h1 : fr + 1 ≤ R.frames) (h2 : 8 + (7 + 11) + 60 * fr ≤ R.locals) : CallW R s args RX0 RX0 302 yX0_wantParts cX0_wantParts 7 none (wsOf yX0_wantParts cX0_wantParts 7 none) ({ frames := fr, cells := 0, slots := 0, locals := 60 * fr } : Room) 0 0 3 := cwV 3 hts (gd_all (in_V kw_1254 kw_1256 kw_55 kw_204 kc_X0_wantParts)) rfl rfl rfl (by decide +kernel) ⟨h1, h2⟩
set_option maxHeartbeats 4000000 in
set_option maxRecDepth 100000 in
theorem sc_X0_wantParts (l : Launch) (dC : Nat → ClassId) (dI : Nat → Nat → Nat) (cB cI cJ cZ cS cO : ClassId) (b : Nat) (K V : Nat → Nat) (fz : Value) (F : Nat) (cs : CS) (x0 : Nat) (x1 : Int32) (x2 : Int32) (x3 : Int32) (cs9 : CS) (hf : c_X0_wantParts F cs x0 x1 x2 x3 = some cs9) : ocV l dC dI cB cI cJ cZ cS cO b K V fz yX0_wantParts (wsOf yX0_wantParts cX0_wantParts 7 none) (1) [.ref (b + x0), .int x1, .int x2, .int x3] cs cs9 := by
  intro sz
  refine Met.ofW (cc := cX0_wantParts) (maxL := 7) (ret := none) (by decide) rfl ?_
  intro p e s m args below meth c s₁ B hml hv
  obtain ⟨rfl, hsz, hP, hK, hD0, hZ⟩ := hv
  have hx := B.exec
  have hb := B.bytes
  have hr := B.returns
  have hts := atoms_spec (ws := (wsOf yX0_wantParts cX0_wantParts 7 none)) B.pre
  have hown : s.vm.findClass RX0 = some m.cls := findClass_of_methodNamed B.named
  have hlocks := B.notSynchronized
  subst hsz
  have hD := hD0.self (sz := s.heap.size)
  generalize hAe : va_A (cW cB cI cJ cZ cS cO b cs) s.heap.size = A at hD hZ ⊢
  have hA : ∀ q : Nat, s.heap.size ≤ q → A q := fun q h => by rw [← hAe]; exact Or.inr h
  have hS : va_S A s.heap s.heap [] := va_S.rf
  have hl := lv_entry ([.ref (b + x0), .int x1, .int x2, .int x3]) (n := 7) (Nat.le_of_ble_eq_true rfl)
  rw [lg_entry_eq]
  generalize (lg_sl ([.ref (b + x0), .int x1, .int x2, .int x3]) ++ List.replicate (7 - (lg_sl ([.ref (b + x0), .int x1, .int x2, .int x3])).length) Slot.unset).toArray = ls at hl ⊢
  have hl : lv_has ls 7 [(0, .ref (b + x0)), (1, .int x1), (2, .int x2), (3, .int x3)] := hl
  have B_106 : ∀ (cs1 : CS) (u0 : Nat) (u1 : Int32) (u3 : Int32), c_X0_wantParts_b106 F cs1 u0 u1 u3 = some cs9 → ∀ (H : Heap) (locs : List Loc) (ls : Array Slot), va_P (dC, dI) vwCl (cW cB cI cJ cZ cS cO b cs1) H → va_D A (cW cB cI cJ cZ cS cO b cs1) → va_S A s.heap H locs → lv_has ls 7 [(0, .ref (b + u0)), (1, .int u1), (3, .int u3)] → W p l e (headSpec (wsOf yX0_wantParts cX0_wantParts 7 none) ({ frames := 1, cells := 0, slots := 0, locals := 60 * (1) } : Room)).room s m ([.ref (b + x0), .int x1, .int x2, .int x3] : List Value).toArray below meth c H locs 0 0 (MQ below (va_Qv (fun (_ : Unit) => True) (fun _ t_ => va_P (dC, dI) vwCl (cW cB cI cJ cZ cS cO b cs9) t_.heap ∧ va_D A (cW cB cI cJ cZ cS cO b cs9)) A) ([.ref (b + x0), .int x1, .int x2, .int x3] : List Value).toArray s 0 0 A) (F0 m 106 ls []) := by
    intro cs1 u0 u1 u3 h H locs ls hP hD hS hl
    unfold c_X0_wantParts_b106 at h
    refine lv_aload_n hx hb dX0_wantParts_106 rfl (lv_at hl 0 rfl) ?_
    replace h := ob h; obtain ⟨v_1, hv_1, h⟩ := h
    refine fg_X0_25 hx hb hts hown hK hP hv_1 dX0_wantParts_107 ?_
    replace h := ob h; obtain ⟨i_2, hi_2, h⟩ := h
    subst hi_2
    replace h := ob h; obtain ⟨v_3, hv_3, h⟩ := h
    refine fg_X0_271 hx hb hts hown hK hP hv_3 dX0_wantParts_110 ?_
    refine lv_iload_n hx hb dX0_wantParts_113 rfl (lv_at hl 1 rfl) ?_
    refine lv_iload_n hx hb dX0_wantParts_114 rfl (lv_at hl 2 rfl) ?_
    replace h := ob h; obtain ⟨cs_4, hv_4, h⟩ := h
    refine ast0 hx hb hK hP hD hS rfl hv_4 dX0_wantParts_115 (fun H locs hP hD hS => ?_)
    have e1 := Option.some.inj h
    rw [e1] at hP hD
    exact W.vret hx hb hr (fun t_ ht hW => ⟨⟨(), rfl, trivial, by rw [ht]; exact hP, hD⟩, hS.F ht⟩) hS.2.2 dX0_wantParts_116
  have B_76 : ∀ (cs1 : CS) (u0 : Nat) (u1 : Int32) (u3 : Int32) (u4 : Int32), c_X0_wantParts_b76 F cs1 u0 u1 u3 u4 = some cs9 → ∀ (H : Heap) (locs : List Loc) (ls : Array Slot), va_P (dC, dI) vwCl (cW cB cI cJ cZ cS cO b cs1) H → va_D A (cW cB cI cJ cZ cS cO b cs1) → va_S A s.heap H locs → lv_has ls 7 [(0, .ref (b + u0)), (1, .int u1), (3, .int u3), (4, .int u4)] → W p l e (headSpec (wsOf yX0_wantParts cX0_wantParts 7 none) ({ frames := 1, cells := 0, slots := 0, locals := 60 * (1) } : Room)).room s m ([.ref (b + x0), .int x1, .int x2, .int x3] : List Value).toArray below meth c H locs 0 0 (MQ below (va_Qv (fun (_ : Unit) => True) (fun _ t_ => va_P (dC, dI) vwCl (cW cB cI cJ cZ cS cO b cs9) t_.heap ∧ va_D A (cW cB cI cJ cZ cS cO b cs9)) A) ([.ref (b + x0), .int x1, .int x2, .int x3] : List Value).toArray s 0 0 A) (F0 m 76 ls []) := by
    intro cs1 u0 u1 u3 u4 h H locs ls hP hD hS hl
    unfold c_X0_wantParts_b76 at h
    refine lv_aload_n hx hb dX0_wantParts_76 rfl (lv_at hl 0 rfl) ?_
    replace h := ob h; obtain ⟨v_5, hv_5, h⟩ := h
    refine fg_X0_25 hx hb hts hown hK hP hv_5 dX0_wantParts_77 ?_
    refine lv_iload hx hb dX0_wantParts_80 (lv_at hl 3 rfl) ?_
    replace h := ob h; obtain ⟨i_7, hi_7, h⟩ := h
    subst hi_7
    replace h := ob h; obtain ⟨w_8, hw_8, h⟩ := h
    replace h := ob h; obtain ⟨v_6, hv_6, h⟩ := h
    refine ccI (As := [.int u4]) hx hb hml hts hown hK hP hD hS hA hZ (X := 2) (by decide) rfl (ckE_some hw_8) (sc_X1_has l dC dI cB cI cJ cZ cS cO b K V fz F cs1 i_7 u4 v_6 hv_6) (cw_X0_X1_has hts (fr := 0) (Nat.le_of_ble_eq_true rfl) (Nat.le_of_ble_eq_true rfl)) rfl hl.1 (Nat.le_of_ble_eq_true rfl) ⟨Nat.zero_le _, Nat.zero_le _⟩ dX0_wantParts_82 (fun H locs hP hD hS => ?_)
    refine lv_if_eq (tgt := 106) hx hb dX0_wantParts_85 (by decide) (fun c_9 => ?_) (fun c_9 => ?_)
    · skip
      replace h := (if_pos c_9).symm.trans h
      exact B_106 cs1 u0 u1 u3 h _ _ _ hP hD hS (lv_sub hl [0, 1, 2] rfl)
    · skip
      replace h := (if_neg c_9).symm.trans h
      refine lv_aload_n hx hb dX0_wantParts_88 rfl (lv_at hl 0 rfl) ?_
      replace h := ob h; obtain ⟨v_10, hv_10, h⟩ := h
      refine fg_X0_9 hx hb hts hown hK hP hv_10 dX0_wantParts_89 ?_
      refine lv_iconst (v := 4) hx hb dX0_wantParts_92 (by decide) ?_
      refine lv_aload_n hx hb dX0_wantParts_93 rfl (lv_at hl 0 rfl) ?_
      replace h := ob h; obtain ⟨v_11, hv_11, h⟩ := h
      refine fg_X0_25 hx hb hts hown hK hP hv_11 dX0_wantParts_94 ?_
      replace h := ob h; obtain ⟨i_12, hi_12, h⟩ := h
      subst hi_12
      replace h := ob h; obtain ⟨v_13, hv_13, h⟩ := h
      refine fg_X0_246 hx hb hts hown hK hP hv_13 dX0_wantParts_97 ?_
      refine lv_iload hx hb dX0_wantParts_100 (lv_at hl 3 rfl) ?_
      replace h := ob h; obtain ⟨v_14, hv_14, h⟩ := h
      refine ald0 hx hb hK hP rfl hv_14 dX0_wantParts_102 ?_
      replace h := ob h; obtain ⟨i_16, hi_16, h⟩ := h
      subst hi_16
      replace h := ob h; obtain ⟨w_17, hw_17, h⟩ := h
      replace h := ob h; obtain ⟨cs_15, hv_15, h⟩ := h
      refine ccV (As := [.int 4, .int v_14]) hx hb hml hts hown hK hP hD hS hA hZ (X := 10) (by decide) rfl (ckE_some hw_17) (sc_X9_refuse l dC dI cB cI cJ cZ cS cO b K V fz F cs1 i_16 4 v_14 cs_15 hv_15) (cw_X0_X9_refuse hts (fr := 0) (Nat.le_of_ble_eq_true rfl) (Nat.le_of_ble_eq_true rfl)) rfl hl.1 (Nat.le_of_ble_eq_true rfl) ⟨Nat.zero_le _, Nat.zero_le _⟩ dX0_wantParts_103 (fun H locs hP hD hS => ?_)
      exact B_106 cs_15 u0 u1 u3 h _ _ _ hP hD hS (lv_sub hl [0, 1, 2] rfl)
  have L_11 : ∀ (lf_11 : Nat), ∀ (cs1 : CS) (u0 : Nat) (u1 : Int32) (u2 : Int32) (u3 : Int32) (u4 : Int32) (u5 : Int32) (u6 : Int32), c_X0_wantParts_L11 F lf_11 cs1 u0 u1 u2 u3 u4 u5 u6 = some cs9 → ∀ (H : Heap) (locs : List Loc) (ls : Array Slot), va_P (dC, dI) vwCl (cW cB cI cJ cZ cS cO b cs1) H → va_D A (cW cB cI cJ cZ cS cO b cs1) → va_S A s.heap H locs → lv_has ls 7 [(0, .ref (b + u0)), (1, .int u1), (2, .int u2), (3, .int u3), (4, .int u4), (5, .int u5), (6, .int u6)] → W p l e (headSpec (wsOf yX0_wantParts cX0_wantParts 7 none) ({ frames := 1, cells := 0, slots := 0, locals := 60 * (1) } : Room)).room s m ([.ref (b + x0), .int x1, .int x2, .int x3] : List Value).toArray below meth c H locs 0 0 (MQ below (va_Qv (fun (_ : Unit) => True) (fun _ t_ => va_P (dC, dI) vwCl (cW cB cI cJ cZ cS cO b cs9) t_.heap ∧ va_D A (cW cB cI cJ cZ cS cO b cs9)) A) ([.ref (b + x0), .int x1, .int x2, .int x3] : List Value).toArray s 0 0 A) (F0 m 11 ls []) := by
    intro lf_11
    induction lf_11 with
    | zero => intro cs1 u0 u1 u2 u3 u4 u5 u6 h; cases (show (none : Option CS) = _ from h)
    | succ lf_11 ih_11 =>
      have B_56 : ∀ (cs1 : CS) (u0 : Nat) (u1 : Int32) (u2 : Int32) (u3 : Int32) (u4 : Int32) (u5 : Int32) (u6 : Int32), c_X0_wantParts_b56 F (c_X0_wantParts_L11 F lf_11) cs1 u0 u1 u2 u3 u4 u5 u6 = some cs9 → ∀ (H : Heap) (locs : List Loc) (ls : Array Slot), va_P (dC, dI) vwCl (cW cB cI cJ cZ cS cO b cs1) H → va_D A (cW cB cI cJ cZ cS cO b cs1) → va_S A s.heap H locs → lv_has ls 7 [(0, .ref (b + u0)), (1, .int u1), (2, .int u2), (3, .int u3), (4, .int u4), (5, .int u5), (6, .int u6)] → W p l e (headSpec (wsOf yX0_wantParts cX0_wantParts 7 none) ({ frames := 1, cells := 0, slots := 0, locals := 60 * (1) } : Room)).room s m ([.ref (b + x0), .int x1, .int x2, .int x3] : List Value).toArray below meth c H locs 0 0 (MQ below (va_Qv (fun (_ : Unit) => True) (fun _ t_ => va_P (dC, dI) vwCl (cW cB cI cJ cZ cS cO b cs9) t_.heap ∧ va_D A (cW cB cI cJ cZ cS cO b cs9)) A) ([.ref (b + x0), .int x1, .int x2, .int x3] : List Value).toArray s 0 0 A) (F0 m 56 ls []) := by
        intro cs1 u0 u1 u2 u3 u4 u5 u6 h H locs ls hP hD hS hl
        unfold c_X0_wantParts_b56 at h
        refine lv_aload_n hx hb dX0_wantParts_56 rfl (lv_at hl 0 rfl) ?_
        replace h := ob h; obtain ⟨v_18, hv_18, h⟩ := h
        refine fg_X0_25 hx hb hts hown hK hP hv_18 dX0_wantParts_57 ?_
        replace h := ob h; obtain ⟨i_19, hi_19, h⟩ := h
        subst hi_19
        replace h := ob h; obtain ⟨v_20, hv_20, h⟩ := h
        refine fg_X0_272 hx hb hts hown hK hP hv_20 dX0_wantParts_60 ?_
        refine lv_iload hx hb dX0_wantParts_63 (lv_at hl 5 rfl) ?_
        replace h := ob h; obtain ⟨v_21, hv_21, h⟩ := h
        refine ald0 hx hb hK hP rfl hv_21 dX0_wantParts_65 ?_
        refine lv_iconst (v := 1) hx hb dX0_wantParts_66 (by decide) ?_
        refine lv_isub hx hb dX0_wantParts_67 ?_
        refine lv_istore (lv' := [(5, .int (v_21 - 1)), (0, .ref (b + u0)), (1, .int u1), (2, .int u2), (3, .int u3), (4, .int u4), (6, .int u6)]) hx hb dX0_wantParts_68 hl (by decide) rfl (fun ls hl => ?_)
        refine lv_iinc (v := u6 + 1) (lv' := [(6, .int (u6 + 1)), (5, .int (v_21 - 1)), (0, .ref (b + u0)), (1, .int u1), (2, .int u2), (3, .int u3), (4, .int u4)]) hx hb dX0_wantParts_70 hl (k := 6) rfl rfl (by decide) rfl (fun ls hl => ?_)
        refine lv_goto (tgt := 11) hx hb dX0_wantParts_73 (by decide) ?_
        exact ih_11 cs1 u0 u1 u2 u3 u4 (v_21 - 1) (u6 + 1) h _ _ _ hP hD hS (lv_sub hl [2, 3, 4, 5, 6, 1, 0] rfl)
      intro cs1 u0 u1 u2 u3 u4 u5 u6 h H locs ls hP hD hS hl
      rw [c_X0_wantParts_L11] at h
      refine lv_iload hx hb dX0_wantParts_11 (lv_at hl 6 rfl) ?_
      refine lv_aload_n hx hb dX0_wantParts_13 rfl (lv_at hl 0 rfl) ?_
      replace h := ob h; obtain ⟨v_22, hv_22, h⟩ := h
      refine fg_X0_25 hx hb hts hown hK hP hv_22 dX0_wantParts_14 ?_
      replace h := ob h; obtain ⟨i_23, hi_23, h⟩ := h
      subst hi_23
      replace h := ob h; obtain ⟨v_24, hv_24, h⟩ := h
      refine fg_X0_309 hx hb hts hown hK hP hv_24 dX0_wantParts_17 ?_
      refine lv_iload_n hx hb dX0_wantParts_20 rfl (lv_at hl 1 rfl) ?_
      replace h := ob h; obtain ⟨v_25, hv_25, h⟩ := h
      refine ald0 hx hb hK hP rfl hv_25 dX0_wantParts_21 ?_
      refine lv_icmp_ge (tgt := 76) hx hb dX0_wantParts_22 (by decide) (fun c_26 => ?_) (fun c_26 => ?_)
      · skip
        replace h := (if_pos c_26).symm.trans h
        exact B_76 cs1 u0 u1 u3 u4 h _ _ _ hP hD hS (lv_sub hl [0, 1, 3, 4] rfl)
      · skip
        replace h := (if_neg c_26).symm.trans h
        refine lv_aload_n hx hb dX0_wantParts_25 rfl (lv_at hl 0 rfl) ?_
        replace h := ob h; obtain ⟨v_27, hv_27, h⟩ := h
        refine fg_X0_25 hx hb hts hown hK hP hv_27 dX0_wantParts_26 ?_
        refine lv_iload hx hb dX0_wantParts_29 (lv_at hl 5 rfl) ?_
        replace h := ob h; obtain ⟨i_29, hi_29, h⟩ := h
        subst hi_29
        replace h := ob h; obtain ⟨w_30, hw_30, h⟩ := h
        replace h := ob h; obtain ⟨v_28, hv_28, h⟩ := h
        refine ccI (As := [.int u5]) hx hb hml hts hown hK hP hD hS hA hZ (X := 2) (by decide) rfl (ckE_some hw_30) (sc_X1_has l dC dI cB cI cJ cZ cS cO b K V fz F cs1 i_29 u5 v_28 hv_28) (cw_X0_X1_has hts (fr := 0) (Nat.le_of_ble_eq_true rfl) (Nat.le_of_ble_eq_true rfl)) rfl hl.1 (Nat.le_of_ble_eq_true rfl) ⟨Nat.zero_le _, Nat.zero_le _⟩ dX0_wantParts_31 (fun H locs hP hD hS => ?_)
        refine lv_if_eq (tgt := 76) hx hb dX0_wantParts_34 (by decide) (fun c_31 => ?_) (fun c_31 => ?_)
        · skip
          replace h := (if_pos c_31).symm.trans h
          exact B_76 cs1 u0 u1 u3 u4 h _ _ _ hP hD hS (lv_sub hl [0, 1, 3, 4] rfl)
        · skip
          replace h := (if_neg c_31).symm.trans h
          refine lv_aload_n hx hb dX0_wantParts_37 rfl (lv_at hl 0 rfl) ?_
          replace h := ob h; obtain ⟨v_32, hv_32, h⟩ := h
          refine fg_X0_25 hx hb hts hown hK hP hv_32 dX0_wantParts_38 ?_
          replace h := ob h; obtain ⟨i_33, hi_33, h⟩ := h
          subst hi_33
          replace h := ob h; obtain ⟨v_34, hv_34, h⟩ := h
          refine fg_X0_271 hx hb hts hown hK hP hv_34 dX0_wantParts_41 ?_
          refine lv_iload hx hb dX0_wantParts_44 (lv_at hl 5 rfl) ?_
          replace h := ob h; obtain ⟨v_35, hv_35, h⟩ := h
          refine ald0 hx hb hK hP rfl hv_35 dX0_wantParts_46 ?_
          refine lv_iload_n hx hb dX0_wantParts_47 rfl (lv_at hl 2 rfl) ?_
          refine lv_iand hx hb dX0_wantParts_48 ?_
          refine lv_if_ne (tgt := 56) hx hb dX0_wantParts_49 (by decide) (fun c_36 => ?_) (fun c_36 => ?_)
          · skip
            replace h := (if_neg c_36).symm.trans h
            exact B_56 cs1 u0 u1 u2 u3 u4 u5 u6 h _ _ _ hP hD hS (lv_sub hl [0, 1, 2, 3, 4, 5, 6] rfl)
          · skip
            replace h := (if_pos c_36).symm.trans h
            refine lv_iload hx hb dX0_wantParts_52 (lv_at hl 5 rfl) ?_
            refine lv_istore (lv' := [(4, .int u5), (0, .ref (b + u0)), (1, .int u1), (2, .int u2), (3, .int u3), (5, .int u5), (6, .int u6)]) hx hb dX0_wantParts_54 hl (by decide) rfl (fun ls hl => ?_)
            exact B_56 cs1 u0 u1 u2 u3 u5 u5 u6 h _ _ _ hP hD hS (lv_sub hl [1, 2, 3, 4, 0, 5, 6] rfl)
  have h := hf
  unfold c_X0_wantParts at h
  refine lv_iconst (v := (-1)) hx hb dX0_wantParts_0 (by decide) ?_
  refine lv_istore (lv' := [(4, .int (-1)), (0, .ref (b + x0)), (1, .int x1), (2, .int x2), (3, .int x3)]) hx hb dX0_wantParts_1 hl (by decide) rfl (fun ls hl => ?_)
  refine lv_iload_n hx hb dX0_wantParts_3 rfl (lv_at hl 2 rfl) ?_
  refine lv_iconst (v := 1) hx hb dX0_wantParts_4 (by decide) ?_
  refine lv_isub hx hb dX0_wantParts_5 ?_
  refine lv_istore (lv' := [(5, .int (x1 - 1)), (4, .int (-1)), (0, .ref (b + x0)), (1, .int x1), (2, .int x2), (3, .int x3)]) hx hb dX0_wantParts_6 hl (by decide) rfl (fun ls hl => ?_)
  refine lv_iconst (v := 0) hx hb dX0_wantParts_8 (by decide) ?_
  refine lv_istore (lv' := [(6, .int 0), (5, .int (x1 - 1)), (4, .int (-1)), (0, .ref (b + x0)), (1, .int x1), (2, .int x2), (3, .int x3)]) hx hb dX0_wantParts_9 hl (by decide) rfl (fun ls hl => ?_)
  exact L_11 F cs x0 x1 x2 x3 (-1) (x1 - 1) 0 h _ _ _ hP hD hS (lv_sub hl [3, 4, 5, 6, 2, 1, 0] rfl)
theorem dX0_checkCase_0 : decode cX0_checkCase 0 = .ok (.iload_n 1, 1) := by decide +kernel
theorem dX0_checkCase_1 : decode cX0_checkCase 1 = .ok (.iconst 1, 1) := by decide +kernel
theorem dX0_checkCase_2 : decode cX0_checkCase 2 = .ok (.isub, 1) := by decide +kernel
theorem dX0_checkCase_3 : decode cX0_checkCase 3 = .ok (.istore_n 2, 1) := by decide +kernel
theorem dX0_checkCase_4 : decode cX0_checkCase 4 = .ok (.aload_n 0, 1) := by decide +kernel
theorem dX0_checkCase_5 : decode cX0_checkCase 5 = .ok (.getfield 25, 3) := by decide +kernel
theorem dX0_checkCase_8 : decode cX0_checkCase 8 = .ok (.iload_n 2, 1) := by decide +kernel
theorem dX0_checkCase_9 : decode cX0_checkCase 9 = .ok (.invokevirtual 243, 3) := by decide +kernel
theorem dX0_checkCase_12 : decode cX0_checkCase 12 = .ok (.ifCond .eq 17, 3) := by decide +kernel
theorem dX0_checkCase_15 : decode cX0_checkCase 15 = .ok (.aload_n 0, 1) := by decide +kernel
theorem dX0_checkCase_16 : decode cX0_checkCase 16 = .ok (.getfield 25, 3) := by decide +kernel
theorem dX0_checkCase_19 : decode cX0_checkCase 19 = .ok (.getfield 272, 3) := by decide +kernel
theorem dX0_checkCase_22 : decode cX0_checkCase 22 = .ok (.iload_n 2, 1) := by decide +kernel
theorem dX0_checkCase_23 : decode cX0_checkCase 23 = .ok (.iaload, 1) := by decide +kernel
theorem dX0_checkCase_24 : decode cX0_checkCase 24 = .ok (.iconst 1, 1) := by decide +kernel
theorem dX0_checkCase_25 : decode cX0_checkCase 25 = .ok (.isub, 1) := by decide +kernel
theorem dX0_checkCase_26 : decode cX0_checkCase 26 = .ok (.goto 4, 3) := by decide +kernel
theorem dX0_checkCase_29 : decode cX0_checkCase 29 = .ok (.iconst (-1), 1) := by decide +kernel
theorem dX0_checkCase_30 : decode cX0_checkCase 30 = .ok (.istore_n 3, 1) := by decide +kernel
theorem dX0_checkCase_31 : decode cX0_checkCase 31 = .ok (.aload_n 0, 1) := by decide +kernel
theorem dX0_checkCase_32 : decode cX0_checkCase 32 = .ok (.getfield 25, 3) := by decide +kernel
theorem dX0_checkCase_35 : decode cX0_checkCase 35 = .ok (.iload_n 3, 1) := by decide +kernel
theorem dX0_checkCase_36 : decode cX0_checkCase 36 = .ok (.invokevirtual 243, 3) := by decide +kernel
theorem dX0_checkCase_39 : decode cX0_checkCase 39 = .ok (.ifCond .eq 17, 3) := by decide +kernel
theorem dX0_checkCase_42 : decode cX0_checkCase 42 = .ok (.aload_n 0, 1) := by decide +kernel
theorem dX0_checkCase_43 : decode cX0_checkCase 43 = .ok (.getfield 25, 3) := by decide +kernel
theorem dX0_checkCase_46 : decode cX0_checkCase 46 = .ok (.getfield 272, 3) := by decide +kernel
theorem dX0_checkCase_49 : decode cX0_checkCase 49 = .ok (.iload_n 3, 1) := by decide +kernel
theorem dX0_checkCase_50 : decode cX0_checkCase 50 = .ok (.iaload, 1) := by decide +kernel
theorem dX0_checkCase_51 : decode cX0_checkCase 51 = .ok (.iconst 1, 1) := by decide +kernel
theorem dX0_checkCase_52 : decode cX0_checkCase 52 = .ok (.isub, 1) := by decide +kernel
theorem dX0_checkCase_53 : decode cX0_checkCase 53 = .ok (.goto 4, 3) := by decide +kernel
theorem dX0_checkCase_56 : decode cX0_checkCase 56 = .ok (.iconst (-1), 1) := by decide +kernel
theorem dX0_checkCase_57 : decode cX0_checkCase 57 = .ok (.istore 4, 2) := by decide +kernel
theorem dX0_checkCase_59 : decode cX0_checkCase 59 = .ok (.aload_n 0, 1) := by decide +kernel
theorem dX0_checkCase_60 : decode cX0_checkCase 60 = .ok (.getfield 25, 3) := by decide +kernel
theorem dX0_checkCase_63 : decode cX0_checkCase 63 = .ok (.iload 4, 2) := by decide +kernel
theorem dX0_checkCase_65 : decode cX0_checkCase 65 = .ok (.invokevirtual 243, 3) := by decide +kernel
theorem dX0_checkCase_68 : decode cX0_checkCase 68 = .ok (.ifCond .ne 4, 3) := by decide +kernel
theorem dX0_checkCase_71 : decode cX0_checkCase 71 = .ok (.return_, 1) := by decide +kernel
theorem dX0_checkCase_72 : decode cX0_checkCase 72 = .ok (.aload_n 0, 1) := by decide +kernel
theorem dX0_checkCase_73 : decode cX0_checkCase 73 = .ok (.getfield 25, 3) := by decide +kernel
theorem dX0_checkCase_76 : decode cX0_checkCase 76 = .ok (.getfield 271, 3) := by decide +kernel
theorem dX0_checkCase_79 : decode cX0_checkCase 79 = .ok (.iload 4, 2) := by decide +kernel
theorem dX0_checkCase_81 : decode cX0_checkCase 81 = .ok (.iaload, 1) := by decide +kernel
theorem dX0_checkCase_82 : decode cX0_checkCase 82 = .ok (.iconst 2, 1) := by decide +kernel
theorem dX0_checkCase_83 : decode cX0_checkCase 83 = .ok (.iand, 1) := by decide +kernel
theorem dX0_checkCase_84 : decode cX0_checkCase 84 = .ok (.ifCond .ne 21, 3) := by decide +kernel
theorem dX0_checkCase_87 : decode cX0_checkCase 87 = .ok (.aload_n 0, 1) := by decide +kernel
theorem dX0_checkCase_88 : decode cX0_checkCase 88 = .ok (.getfield 9, 3) := by decide +kernel
theorem dX0_checkCase_91 : decode cX0_checkCase 91 = .ok (.iconst 4, 1) := by decide +kernel
theorem dX0_checkCase_92 : decode cX0_checkCase 92 = .ok (.aload_n 0, 1) := by decide +kernel
theorem dX0_checkCase_93 : decode cX0_checkCase 93 = .ok (.getfield 25, 3) := by decide +kernel
theorem dX0_checkCase_96 : decode cX0_checkCase 96 = .ok (.getfield 246, 3) := by decide +kernel
theorem dX0_checkCase_99 : decode cX0_checkCase 99 = .ok (.iload 4, 2) := by decide +kernel
theorem dX0_checkCase_101 : decode cX0_checkCase 101 = .ok (.iaload, 1) := by decide +kernel
theorem dX0_checkCase_102 : decode cX0_checkCase 102 = .ok (.invokevirtual 76, 3) := by decide +kernel
theorem dX0_checkCase_105 : decode cX0_checkCase 105 = .ok (.aload_n 0, 1) := by decide +kernel
theorem dX0_checkCase_106 : decode cX0_checkCase 106 = .ok (.getfield 25, 3) := by decide +kernel
theorem dX0_checkCase_109 : decode cX0_checkCase 109 = .ok (.getfield 271, 3) := by decide +kernel
theorem dX0_checkCase_112 : decode cX0_checkCase 112 = .ok (.iload_n 3, 1) := by decide +kernel
theorem dX0_checkCase_113 : decode cX0_checkCase 113 = .ok (.iaload, 1) := by decide +kernel
theorem dX0_checkCase_114 : decode cX0_checkCase 114 = .ok (.aload_n 0, 1) := by decide +kernel
theorem dX0_checkCase_115 : decode cX0_checkCase 115 = .ok (.getfield 25, 3) := by decide +kernel
theorem dX0_checkCase_118 : decode cX0_checkCase 118 = .ok (.getfield 271, 3) := by decide +kernel
theorem dX0_checkCase_121 : decode cX0_checkCase 121 = .ok (.iload_n 2, 1) := by decide +kernel
theorem dX0_checkCase_122 : decode cX0_checkCase 122 = .ok (.iaload, 1) := by decide +kernel
theorem dX0_checkCase_123 : decode cX0_checkCase 123 = .ok (.iand, 1) := by decide +kernel
theorem dX0_checkCase_124 : decode cX0_checkCase 124 = .ok (.ifCond .ne 20, 3) := by decide +kernel
theorem dX0_checkCase_127 : decode cX0_checkCase 127 = .ok (.aload_n 0, 1) := by decide +kernel
theorem dX0_checkCase_128 : decode cX0_checkCase 128 = .ok (.getfield 9, 3) := by decide +kernel
theorem dX0_checkCase_131 : decode cX0_checkCase 131 = .ok (.iconst 4, 1) := by decide +kernel
theorem dX0_checkCase_132 : decode cX0_checkCase 132 = .ok (.aload_n 0, 1) := by decide +kernel
theorem dX0_checkCase_133 : decode cX0_checkCase 133 = .ok (.getfield 25, 3) := by decide +kernel
theorem dX0_checkCase_136 : decode cX0_checkCase 136 = .ok (.getfield 246, 3) := by decide +kernel
theorem dX0_checkCase_139 : decode cX0_checkCase 139 = .ok (.iload_n 2, 1) := by decide +kernel
theorem dX0_checkCase_140 : decode cX0_checkCase 140 = .ok (.iaload, 1) := by decide +kernel
theorem dX0_checkCase_141 : decode cX0_checkCase 141 = .ok (.invokevirtual 76, 3) := by decide +kernel
theorem dX0_checkCase_144 : decode cX0_checkCase 144 = .ok (.aload_n 0, 1) := by decide +kernel
theorem dX0_checkCase_145 : decode cX0_checkCase 145 = .ok (.getfield 25, 3) := by decide +kernel
theorem dX0_checkCase_148 : decode cX0_checkCase 148 = .ok (.getfield 271, 3) := by decide +kernel
theorem dX0_checkCase_151 : decode cX0_checkCase 151 = .ok (.iload_n 1, 1) := by decide +kernel
theorem dX0_checkCase_152 : decode cX0_checkCase 152 = .ok (.aload_n 0, 1) := by decide +kernel
theorem dX0_checkCase_153 : decode cX0_checkCase 153 = .ok (.getfield 25, 3) := by decide +kernel
theorem dX0_checkCase_156 : decode cX0_checkCase 156 = .ok (.getfield 271, 3) := by decide +kernel
theorem dX0_checkCase_159 : decode cX0_checkCase 159 = .ok (.iload_n 3, 1) := by decide +kernel
theorem dX0_checkCase_160 : decode cX0_checkCase 160 = .ok (.iaload, 1) := by decide +kernel
theorem dX0_checkCase_161 : decode cX0_checkCase 161 = .ok (.aload_n 0, 1) := by decide +kernel
theorem dX0_checkCase_162 : decode cX0_checkCase 162 = .ok (.getfield 25, 3) := by decide +kernel
theorem dX0_checkCase_165 : decode cX0_checkCase 165 = .ok (.getfield 271, 3) := by decide +kernel
theorem dX0_checkCase_168 : decode cX0_checkCase 168 = .ok (.iload_n 2, 1) := by decide +kernel
theorem dX0_checkCase_169 : decode cX0_checkCase 169 = .ok (.iaload, 1) := by decide +kernel
theorem dX0_checkCase_170 : decode cX0_checkCase 170 = .ok (.iand, 1) := by decide +kernel
theorem dX0_checkCase_171 : decode cX0_checkCase 171 = .ok (.iastore, 1) := by decide +kernel
theorem dX0_checkCase_172 : decode cX0_checkCase 172 = .ok (.return_, 1) := by decide +kernel
def c_X0_checkCase_b144 (F : Nat) (cs1 : CS) (u0 : Nat) (u1 : Int32) (u2 : Int32) (u3 : Int32) : Option CS := Option.bind (gR cs1 1 34 u0) fun v_1 => Option.bind (v_1) fun i_2 => Option.bind (gA cs1 2 73 i_2) fun v_3 => Option.bind (gR cs1 1 34 u0) fun v_4 => Option.bind (v_4) fun i_5 => Option.bind (gA cs1 2 73 i_5) fun v_6 => Option.bind (rA cs1 73 i_5 v_6 u3) fun v_7 => Option.bind (gR cs1 1 34 u0) fun v_8 => Option.bind (v_8) fun i_9 => Option.bind (gA cs1 2 73 i_9) fun v_10 => Option.bind (rA cs1 73 i_9 v_10 u2) fun v_11 => Option.bind (wA cs1 73 i_2 v_3 u1 (v_7 &&& v_11)) fun cs_12 => some cs_12
def c_X0_checkCase_b105 (F : Nat) (cs1 : CS) (u0 : Nat) (u1 : Int32) (u2 : Int32) (u3 : Int32) : Option CS := Option.bind (gR cs1 1 34 u0) fun v_13 => Option.bind (v_13) fun i_14 => Option.bind (gA cs1 2 73 i_14) fun v_15 => Option.bind (rA cs1 73 i_14 v_15 u3) fun v_16 => Option.bind (gR cs1 1 34 u0) fun v_17 => Option.bind (v_17) fun i_18 => Option.bind (gA cs1 2 73 i_18) fun v_19 => Option.bind (rA cs1 73 i_18 v_19 u2) fun v_20 => if (v_16 &&& v_20) = 0 then (Option.bind (gR cs1 1 32 u0) fun v_22 => Option.bind (gR cs1 1 34 u0) fun v_23 => Option.bind (v_23) fun i_24 => Option.bind (gA cs1 2 66 i_24) fun v_25 => Option.bind (rA cs1 66 i_24 v_25 u2) fun v_26 => Option.bind (v_22) fun i_28 => Option.bind (ckE cs1 10 i_28) fun _ => Option.bind (c_X9_refuse F cs1 i_28 4 v_26) fun cs_27 => c_X0_checkCase_b144 F cs_27 u0 u1 u2 u3) else (c_X0_checkCase_b144 F cs1 u0 u1 u2 u3)
def c_X0_checkCase_b57 (F : Nat) (cs1 : CS) (u0 : Nat) (u1 : Int32) (u2 : Int32) (u3 : Int32) (y0 : Int32) : Option CS := Option.bind (gR cs1 1 34 u0) fun v_30 => Option.bind (v_30) fun i_32 => Option.bind (ckE cs1 2 i_32) fun _ => Option.bind (c_X1_has F cs1 i_32 y0) fun v_31 => if v_31 = 0 then (some cs1) else (Option.bind (gR cs1 1 34 u0) fun v_35 => Option.bind (v_35) fun i_36 => Option.bind (gA cs1 2 73 i_36) fun v_37 => Option.bind (rA cs1 73 i_36 v_37 y0) fun v_38 => if (v_38 &&& 2) = 0 then (Option.bind (gR cs1 1 32 u0) fun v_40 => Option.bind (gR cs1 1 34 u0) fun v_41 => Option.bind (v_41) fun i_42 => Option.bind (gA cs1 2 66 i_42) fun v_43 => Option.bind (rA cs1 66 i_42 v_43 y0) fun v_44 => Option.bind (v_40) fun i_46 => Option.bind (ckE cs1 10 i_46) fun _ => Option.bind (c_X9_refuse F cs1 i_46 4 v_44) fun cs_45 => c_X0_checkCase_b105 F cs_45 u0 u1 u2 u3) else (c_X0_checkCase_b105 F cs1 u0 u1 u2 u3))
def c_X0_checkCase_b30 (F : Nat) (cs1 : CS) (u0 : Nat) (u1 : Int32) (u2 : Int32) (y0 : Int32) : Option CS := Option.bind (gR cs1 1 34 u0) fun v_48 => Option.bind (v_48) fun i_50 => Option.bind (ckE cs1 2 i_50) fun _ => Option.bind (c_X1_has F cs1 i_50 y0) fun v_49 => if v_49 = 0 then (c_X0_checkCase_b57 F cs1 u0 u1 u2 y0 (-1)) else (Option.bind (gR cs1 1 34 u0) fun v_53 => Option.bind (v_53) fun i_54 => Option.bind (gA cs1 2 67 i_54) fun v_55 => Option.bind (rA cs1 67 i_54 v_55 y0) fun v_56 => c_X0_checkCase_b57 F cs1 u0 u1 u2 y0 (v_56 - 1))
def c_X0_checkCase (F : Nat) (cs : CS) (x0 : Nat) (x1 : Int32) : Option CS := Option.bind (gR cs 1 34 x0) fun v_57 => Option.bind (v_57) fun i_59 => Option.bind (ckE cs 2 i_59) fun _ => Option.bind (c_X1_has F cs i_59 (x1 - 1)) fun v_58 => if v_58 = 0 then (c_X0_checkCase_b30 F cs x0 x1 (x1 - 1) (-1)) else (Option.bind (gR cs 1 34 x0) fun v_62 => Option.bind (v_62) fun i_63 => Option.bind (gA cs 2 67 i_63) fun v_64 => Option.bind (rA cs 67 i_63 v_64 (x1 - 1)) fun v_65 => c_X0_checkCase_b30 F cs x0 x1 (x1 - 1) (v_65 - 1))
theorem cw_X0_X0_checkCase {R : Room} {s : State} {args : Array Value} {y0 : MethodName} {c0 : ByteArray} {n0 : Nat} {r0 : Option FieldType} (hts : ∀ w ∈ wsOf y0 c0 n0 r0, w.before args s = true) {fr : Nat} (h1 : fr + 1 ≤ R.frames) (h2 : 8 + (5 + 11) + 60 * fr ≤ R.locals) : CallW R s args RX0 RX0 306 yX0_checkCase cX0_checkCase 5 none (wsOf yX0_checkCase cX0_checkCase 5 none) ({ frames := fr, cells := 0, slots := 0, locals := 60 * fr } : Room) 0 0 1 := cwV 1 hts (gd_all (in_V kw_1258 kw_1260 kw_56 kw_204 kc_X0_checkCase)) rfl rfl rfl (by decide +kernel) ⟨h1, h2⟩
set_option maxHeartbeats 4000000 in
set_option maxRecDepth 100000 in
theorem sc_X0_checkCase (l : Launch) (dC : Nat → ClassId) (dI : Nat → Nat → Nat) (cB cI cJ cZ cS cO : ClassId) (b : Nat) (K V : Nat → Nat) (fz : Value) (F : Nat) (cs : CS) (x0 : Nat) (x1 : Int32) (cs9 : CS) (hf : c_X0_checkCase F cs x0 x1 = some cs9) : ocV l dC dI cB cI cJ cZ cS cO b K V fz yX0_checkCase (wsOf yX0_checkCase cX0_checkCase 5 none) (1) [.ref (b + x0), .int x1] cs cs9 := by
  intro sz
  refine Met.ofW (cc := cX0_checkCase) (maxL := 5) (ret := none) (by decide) rfl ?_
  intro p e s m args below meth c s₁ B hml hv
  obtain ⟨rfl, hsz, hP, hK, hD0, hZ⟩ := hv
  have hx := B.exec
  have hb := B.bytes
  have hr := B.returns
  have hts := atoms_spec (ws := (wsOf yX0_checkCase cX0_checkCase 5 none)) B.pre
  have hown : s.vm.findClass RX0 = some m.cls := findClass_of_methodNamed B.named
  have hlocks := B.notSynchronized
  subst hsz
  have hD := hD0.self (sz := s.heap.size)
  generalize hAe : va_A (cW cB cI cJ cZ cS cO b cs) s.heap.size = A at hD hZ ⊢
  have hA : ∀ q : Nat, s.heap.size ≤ q → A q := fun q h => by rw [← hAe]; exact Or.inr h
  have hS : va_S A s.heap s.heap [] := va_S.rf
  have hl := lv_entry ([.ref (b + x0), .int x1]) (n := 5) (Nat.le_of_ble_eq_true rfl)
  rw [lg_entry_eq]
  generalize (lg_sl ([.ref (b + x0), .int x1]) ++ List.replicate (5 - (lg_sl ([.ref (b + x0), .int x1])).length) Slot.unset).toArray = ls at hl ⊢
  have hl : lv_has ls 5 [(0, .ref (b + x0)), (1, .int x1)] := hl
  have B_144 : ∀ (cs1 : CS) (u0 : Nat) (u1 : Int32) (u2 : Int32) (u3 : Int32), c_X0_checkCase_b144 F cs1 u0 u1 u2 u3 = some cs9 → ∀ (H : Heap) (locs : List Loc) (ls : Array Slot), va_P (dC, dI) vwCl (cW cB cI cJ cZ cS cO b cs1) H → va_D A (cW cB cI cJ cZ cS cO b cs1) → va_S A s.heap H locs → lv_has ls 5 [(0, .ref (b + u0)), (1, .int u1), (2, .int u2), (3, .int u3)] → W p l e (headSpec (wsOf yX0_checkCase cX0_checkCase 5 none) ({ frames := 1, cells := 0, slots := 0, locals := 60 * (1) } : Room)).room s m ([.ref (b + x0), .int x1] : List Value).toArray below meth c H locs 0 0 (MQ below (va_Qv (fun (_ : Unit) => True) (fun _ t_ => va_P (dC, dI) vwCl (cW cB cI cJ cZ cS cO b cs9) t_.heap ∧ va_D A (cW cB cI cJ cZ cS cO b cs9)) A) ([.ref (b + x0), .int x1] : List Value).toArray s 0 0 A) (F0 m 144 ls []) := by
    intro cs1 u0 u1 u2 u3 h H locs ls hP hD hS hl
    unfold c_X0_checkCase_b144 at h
    refine lv_aload_n hx hb dX0_checkCase_144 rfl (lv_at hl 0 rfl) ?_
    replace h := ob h; obtain ⟨v_1, hv_1, h⟩ := h
    refine fg_X0_25 hx hb hts hown hK hP hv_1 dX0_checkCase_145 ?_
    replace h := ob h; obtain ⟨i_2, hi_2, h⟩ := h
    subst hi_2
    replace h := ob h; obtain ⟨v_3, hv_3, h⟩ := h
    refine fg_X0_271 hx hb hts hown hK hP hv_3 dX0_checkCase_148 ?_
    refine lv_iload_n hx hb dX0_checkCase_151 rfl (lv_at hl 1 rfl) ?_
    refine lv_aload_n hx hb dX0_checkCase_152 rfl (lv_at hl 0 rfl) ?_
    replace h := ob h; obtain ⟨v_4, hv_4, h⟩ := h
    refine fg_X0_25 hx hb hts hown hK hP hv_4 dX0_checkCase_153 ?_
    replace h := ob h; obtain ⟨i_5, hi_5, h⟩ := h
    subst hi_5
    replace h := ob h; obtain ⟨v_6, hv_6, h⟩ := h
    refine fg_X0_271 hx hb hts hown hK hP hv_6 dX0_checkCase_156 ?_
    refine lv_iload_n hx hb dX0_checkCase_159 rfl (lv_at hl 3 rfl) ?_
    replace h := ob h; obtain ⟨v_7, hv_7, h⟩ := h
    refine ald0 hx hb hK hP rfl hv_7 dX0_checkCase_160 ?_
    refine lv_aload_n hx hb dX0_checkCase_161 rfl (lv_at hl 0 rfl) ?_
    replace h := ob h; obtain ⟨v_8, hv_8, h⟩ := h
    refine fg_X0_25 hx hb hts hown hK hP hv_8 dX0_checkCase_162 ?_
    replace h := ob h; obtain ⟨i_9, hi_9, h⟩ := h
    subst hi_9
    replace h := ob h; obtain ⟨v_10, hv_10, h⟩ := h
    refine fg_X0_271 hx hb hts hown hK hP hv_10 dX0_checkCase_165 ?_
    refine lv_iload_n hx hb dX0_checkCase_168 rfl (lv_at hl 2 rfl) ?_
    replace h := ob h; obtain ⟨v_11, hv_11, h⟩ := h
    refine ald0 hx hb hK hP rfl hv_11 dX0_checkCase_169 ?_
    refine lv_iand hx hb dX0_checkCase_170 ?_
    replace h := ob h; obtain ⟨cs_12, hv_12, h⟩ := h
    refine ast0 hx hb hK hP hD hS rfl hv_12 dX0_checkCase_171 (fun H locs hP hD hS => ?_)
    have e1 := Option.some.inj h
    rw [e1] at hP hD
    exact W.vret hx hb hr (fun t_ ht hW => ⟨⟨(), rfl, trivial, by rw [ht]; exact hP, hD⟩, hS.F ht⟩) hS.2.2 dX0_checkCase_172
  have B_105 : ∀ (cs1 : CS) (u0 : Nat) (u1 : Int32) (u2 : Int32) (u3 : Int32), c_X0_checkCase_b105 F cs1 u0 u1 u2 u3 = some cs9 → ∀ (H : Heap) (locs : List Loc) (ls : Array Slot), va_P (dC, dI) vwCl (cW cB cI cJ cZ cS cO b cs1) H → va_D A (cW cB cI cJ cZ cS cO b cs1) → va_S A s.heap H locs → lv_has ls 5 [(0, .ref (b + u0)), (1, .int u1), (2, .int u2), (3, .int u3)] → W p l e (headSpec (wsOf yX0_checkCase cX0_checkCase 5 none) ({ frames := 1, cells := 0, slots := 0, locals := 60 * (1) } : Room)).room s m ([.ref (b + x0), .int x1] : List Value).toArray below meth c H locs 0 0 (MQ below (va_Qv (fun (_ : Unit) => True) (fun _ t_ => va_P (dC, dI) vwCl (cW cB cI cJ cZ cS cO b cs9) t_.heap ∧ va_D A (cW cB cI cJ cZ cS cO b cs9)) A) ([.ref (b + x0), .int x1] : List Value).toArray s 0 0 A) (F0 m 105 ls []) := by
    intro cs1 u0 u1 u2 u3 h H locs ls hP hD hS hl
    unfold c_X0_checkCase_b105 at h
    refine lv_aload_n hx hb dX0_checkCase_105 rfl (lv_at hl 0 rfl) ?_
    replace h := ob h; obtain ⟨v_13, hv_13, h⟩ := h
    refine fg_X0_25 hx hb hts hown hK hP hv_13 dX0_checkCase_106 ?_
    replace h := ob h; obtain ⟨i_14, hi_14, h⟩ := h
    subst hi_14
    replace h := ob h; obtain ⟨v_15, hv_15, h⟩ := h
    refine fg_X0_271 hx hb hts hown hK hP hv_15 dX0_checkCase_109 ?_
    refine lv_iload_n hx hb dX0_checkCase_112 rfl (lv_at hl 3 rfl) ?_
    replace h := ob h; obtain ⟨v_16, hv_16, h⟩ := h
    refine ald0 hx hb hK hP rfl hv_16 dX0_checkCase_113 ?_
    refine lv_aload_n hx hb dX0_checkCase_114 rfl (lv_at hl 0 rfl) ?_
    replace h := ob h; obtain ⟨v_17, hv_17, h⟩ := h
    refine fg_X0_25 hx hb hts hown hK hP hv_17 dX0_checkCase_115 ?_
    replace h := ob h; obtain ⟨i_18, hi_18, h⟩ := h
    subst hi_18
    replace h := ob h; obtain ⟨v_19, hv_19, h⟩ := h
    refine fg_X0_271 hx hb hts hown hK hP hv_19 dX0_checkCase_118 ?_
    refine lv_iload_n hx hb dX0_checkCase_121 rfl (lv_at hl 2 rfl) ?_
    replace h := ob h; obtain ⟨v_20, hv_20, h⟩ := h
    refine ald0 hx hb hK hP rfl hv_20 dX0_checkCase_122 ?_
    refine lv_iand hx hb dX0_checkCase_123 ?_
    refine lv_if_ne (tgt := 144) hx hb dX0_checkCase_124 (by decide) (fun c_21 => ?_) (fun c_21 => ?_)
    · skip
      replace h := (if_neg c_21).symm.trans h
      exact B_144 cs1 u0 u1 u2 u3 h _ _ _ hP hD hS (lv_sub hl [0, 1, 2, 3] rfl)
    · skip
      replace h := (if_pos c_21).symm.trans h
      refine lv_aload_n hx hb dX0_checkCase_127 rfl (lv_at hl 0 rfl) ?_
      replace h := ob h; obtain ⟨v_22, hv_22, h⟩ := h
      refine fg_X0_9 hx hb hts hown hK hP hv_22 dX0_checkCase_128 ?_
      refine lv_iconst (v := 4) hx hb dX0_checkCase_131 (by decide) ?_
      refine lv_aload_n hx hb dX0_checkCase_132 rfl (lv_at hl 0 rfl) ?_
      replace h := ob h; obtain ⟨v_23, hv_23, h⟩ := h
      refine fg_X0_25 hx hb hts hown hK hP hv_23 dX0_checkCase_133 ?_
      replace h := ob h; obtain ⟨i_24, hi_24, h⟩ := h
      subst hi_24
      replace h := ob h; obtain ⟨v_25, hv_25, h⟩ := h
      refine fg_X0_246 hx hb hts hown hK hP hv_25 dX0_checkCase_136 ?_
      refine lv_iload_n hx hb dX0_checkCase_139 rfl (lv_at hl 2 rfl) ?_
      replace h := ob h; obtain ⟨v_26, hv_26, h⟩ := h
      refine ald0 hx hb hK hP rfl hv_26 dX0_checkCase_140 ?_
      replace h := ob h; obtain ⟨i_28, hi_28, h⟩ := h
      subst hi_28
      replace h := ob h; obtain ⟨w_29, hw_29, h⟩ := h
      replace h := ob h; obtain ⟨cs_27, hv_27, h⟩ := h
      refine ccV (As := [.int 4, .int v_26]) hx hb hml hts hown hK hP hD hS hA hZ (X := 10) (by decide) rfl (ckE_some hw_29) (sc_X9_refuse l dC dI cB cI cJ cZ cS cO b K V fz F cs1 i_28 4 v_26 cs_27 hv_27) (cw_X0_X9_refuse hts (fr := 0) (Nat.le_of_ble_eq_true rfl) (Nat.le_of_ble_eq_true rfl)) rfl hl.1 (Nat.le_of_ble_eq_true rfl) ⟨Nat.zero_le _, Nat.zero_le _⟩ dX0_checkCase_141 (fun H locs hP hD hS => ?_)
      exact B_144 cs_27 u0 u1 u2 u3 h _ _ _ hP hD hS (lv_sub hl [0, 1, 2, 3] rfl)
  have B_57 : ∀ (cs1 : CS) (u0 : Nat) (u1 : Int32) (u2 : Int32) (u3 : Int32) (y0 : Int32), c_X0_checkCase_b57 F cs1 u0 u1 u2 u3 y0 = some cs9 → ∀ (H : Heap) (locs : List Loc) (ls : Array Slot), va_P (dC, dI) vwCl (cW cB cI cJ cZ cS cO b cs1) H → va_D A (cW cB cI cJ cZ cS cO b cs1) → va_S A s.heap H locs → lv_has ls 5 [(0, .ref (b + u0)), (1, .int u1), (2, .int u2), (3, .int u3)] → W p l e (headSpec (wsOf yX0_checkCase cX0_checkCase 5 none) ({ frames := 1, cells := 0, slots := 0, locals := 60 * (1) } : Room)).room s m ([.ref (b + x0), .int x1] : List Value).toArray below meth c H locs 0 0 (MQ below (va_Qv (fun (_ : Unit) => True) (fun _ t_ => va_P (dC, dI) vwCl (cW cB cI cJ cZ cS cO b cs9) t_.heap ∧ va_D A (cW cB cI cJ cZ cS cO b cs9)) A) ([.ref (b + x0), .int x1] : List Value).toArray s 0 0 A) (F0 m 57 ls [.int y0]) := by
    intro cs1 u0 u1 u2 u3 y0 h H locs ls hP hD hS hl
    unfold c_X0_checkCase_b57 at h
    refine lv_istore (lv' := [(4, .int y0), (0, .ref (b + u0)), (1, .int u1), (2, .int u2), (3, .int u3)]) hx hb dX0_checkCase_57 hl (by decide) rfl (fun ls hl => ?_)
    refine lv_aload_n hx hb dX0_checkCase_59 rfl (lv_at hl 1 rfl) ?_
    replace h := ob h; obtain ⟨v_30, hv_30, h⟩ := h
    refine fg_X0_25 hx hb hts hown hK hP hv_30 dX0_checkCase_60 ?_
    refine lv_iload hx hb dX0_checkCase_63 (lv_at hl 0 rfl) ?_
    replace h := ob h; obtain ⟨i_32, hi_32, h⟩ := h
    subst hi_32
    replace h := ob h; obtain ⟨w_33, hw_33, h⟩ := h
    replace h := ob h; obtain ⟨v_31, hv_31, h⟩ := h
    refine ccI (As := [.int y0]) hx hb hml hts hown hK hP hD hS hA hZ (X := 2) (by decide) rfl (ckE_some hw_33) (sc_X1_has l dC dI cB cI cJ cZ cS cO b K V fz F cs1 i_32 y0 v_31 hv_31) (cw_X0_X1_has hts (fr := 0) (Nat.le_of_ble_eq_true rfl) (Nat.le_of_ble_eq_true rfl)) rfl hl.1 (Nat.le_of_ble_eq_true rfl) ⟨Nat.zero_le _, Nat.zero_le _⟩ dX0_checkCase_65 (fun H locs hP hD hS => ?_)
    refine lv_if_ne (tgt := 72) hx hb dX0_checkCase_68 (by decide) (fun c_34 => ?_) (fun c_34 => ?_)
    · skip
      replace h := (if_neg c_34).symm.trans h
      refine lv_aload_n hx hb dX0_checkCase_72 rfl (lv_at hl 1 rfl) ?_
      replace h := ob h; obtain ⟨v_35, hv_35, h⟩ := h
      refine fg_X0_25 hx hb hts hown hK hP hv_35 dX0_checkCase_73 ?_
      replace h := ob h; obtain ⟨i_36, hi_36, h⟩ := h
      subst hi_36
      replace h := ob h; obtain ⟨v_37, hv_37, h⟩ := h
      refine fg_X0_271 hx hb hts hown hK hP hv_37 dX0_checkCase_76 ?_
      refine lv_iload hx hb dX0_checkCase_79 (lv_at hl 0 rfl) ?_
      replace h := ob h; obtain ⟨v_38, hv_38, h⟩ := h
      refine ald0 hx hb hK hP rfl hv_38 dX0_checkCase_81 ?_
      refine lv_iconst (v := 2) hx hb dX0_checkCase_82 (by decide) ?_
      refine lv_iand hx hb dX0_checkCase_83 ?_
      refine lv_if_ne (tgt := 105) hx hb dX0_checkCase_84 (by decide) (fun c_39 => ?_) (fun c_39 => ?_)
      · skip
        replace h := (if_neg c_39).symm.trans h
        exact B_105 cs1 u0 u1 u2 u3 h _ _ _ hP hD hS (lv_sub hl [1, 2, 3, 4] rfl)
      · skip
        replace h := (if_pos c_39).symm.trans h
        refine lv_aload_n hx hb dX0_checkCase_87 rfl (lv_at hl 1 rfl) ?_
        replace h := ob h; obtain ⟨v_40, hv_40, h⟩ := h
        refine fg_X0_9 hx hb hts hown hK hP hv_40 dX0_checkCase_88 ?_
        refine lv_iconst (v := 4) hx hb dX0_checkCase_91 (by decide) ?_
        refine lv_aload_n hx hb dX0_checkCase_92 rfl (lv_at hl 1 rfl) ?_
        replace h := ob h; obtain ⟨v_41, hv_41, h⟩ := h
        refine fg_X0_25 hx hb hts hown hK hP hv_41 dX0_checkCase_93 ?_
        replace h := ob h; obtain ⟨i_42, hi_42, h⟩ := h
        subst hi_42
        replace h := ob h; obtain ⟨v_43, hv_43, h⟩ := h
        refine fg_X0_246 hx hb hts hown hK hP hv_43 dX0_checkCase_96 ?_
        refine lv_iload hx hb dX0_checkCase_99 (lv_at hl 0 rfl) ?_
        replace h := ob h; obtain ⟨v_44, hv_44, h⟩ := h
        refine ald0 hx hb hK hP rfl hv_44 dX0_checkCase_101 ?_
        replace h := ob h; obtain ⟨i_46, hi_46, h⟩ := h
        subst hi_46
        replace h := ob h; obtain ⟨w_47, hw_47, h⟩ := h
        replace h := ob h; obtain ⟨cs_45, hv_45, h⟩ := h
        refine ccV (As := [.int 4, .int v_44]) hx hb hml hts hown hK hP hD hS hA hZ (X := 10) (by decide) rfl (ckE_some hw_47) (sc_X9_refuse l dC dI cB cI cJ cZ cS cO b K V fz F cs1 i_46 4 v_44 cs_45 hv_45) (cw_X0_X9_refuse hts (fr := 0) (Nat.le_of_ble_eq_true rfl) (Nat.le_of_ble_eq_true rfl)) rfl hl.1 (Nat.le_of_ble_eq_true rfl) ⟨Nat.zero_le _, Nat.zero_le _⟩ dX0_checkCase_102 (fun H locs hP hD hS => ?_)
        exact B_105 cs_45 u0 u1 u2 u3 h _ _ _ hP hD hS (lv_sub hl [1, 2, 3, 4] rfl)
    · skip
      replace h := (if_pos c_34).symm.trans h
      have e1 := Option.some.inj h
      rw [e1] at hP hD
      exact W.vret hx hb hr (fun t_ ht hW => ⟨⟨(), rfl, trivial, by rw [ht]; exact hP, hD⟩, hS.F ht⟩) hS.2.2 dX0_checkCase_71
  have B_30 : ∀ (cs1 : CS) (u0 : Nat) (u1 : Int32) (u2 : Int32) (y0 : Int32), c_X0_checkCase_b30 F cs1 u0 u1 u2 y0 = some cs9 → ∀ (H : Heap) (locs : List Loc) (ls : Array Slot), va_P (dC, dI) vwCl (cW cB cI cJ cZ cS cO b cs1) H → va_D A (cW cB cI cJ cZ cS cO b cs1) → va_S A s.heap H locs → lv_has ls 5 [(0, .ref (b + u0)), (1, .int u1), (2, .int u2)] → W p l e (headSpec (wsOf yX0_checkCase cX0_checkCase 5 none) ({ frames := 1, cells := 0, slots := 0, locals := 60 * (1) } : Room)).room s m ([.ref (b + x0), .int x1] : List Value).toArray below meth c H locs 0 0 (MQ below (va_Qv (fun (_ : Unit) => True) (fun _ t_ => va_P (dC, dI) vwCl (cW cB cI cJ cZ cS cO b cs9) t_.heap ∧ va_D A (cW cB cI cJ cZ cS cO b cs9)) A) ([.ref (b + x0), .int x1] : List Value).toArray s 0 0 A) (F0 m 30 ls [.int y0]) := by
    intro cs1 u0 u1 u2 y0 h H locs ls hP hD hS hl
    unfold c_X0_checkCase_b30 at h
    refine lv_istore_n (lv' := [(3, .int y0), (0, .ref (b + u0)), (1, .int u1), (2, .int u2)]) hx hb dX0_checkCase_30 rfl hl (by decide) rfl (fun ls hl => ?_)
    refine lv_aload_n hx hb dX0_checkCase_31 rfl (lv_at hl 1 rfl) ?_
    replace h := ob h; obtain ⟨v_48, hv_48, h⟩ := h
    refine fg_X0_25 hx hb hts hown hK hP hv_48 dX0_checkCase_32 ?_
    refine lv_iload_n hx hb dX0_checkCase_35 rfl (lv_at hl 0 rfl) ?_
    replace h := ob h; obtain ⟨i_50, hi_50, h⟩ := h
    subst hi_50
    replace h := ob h; obtain ⟨w_51, hw_51, h⟩ := h
    replace h := ob h; obtain ⟨v_49, hv_49, h⟩ := h
    refine ccI (As := [.int y0]) hx hb hml hts hown hK hP hD hS hA hZ (X := 2) (by decide) rfl (ckE_some hw_51) (sc_X1_has l dC dI cB cI cJ cZ cS cO b K V fz F cs1 i_50 y0 v_49 hv_49) (cw_X0_X1_has hts (fr := 0) (Nat.le_of_ble_eq_true rfl) (Nat.le_of_ble_eq_true rfl)) rfl hl.1 (Nat.le_of_ble_eq_true rfl) ⟨Nat.zero_le _, Nat.zero_le _⟩ dX0_checkCase_36 (fun H locs hP hD hS => ?_)
    refine lv_if_eq (tgt := 56) hx hb dX0_checkCase_39 (by decide) (fun c_52 => ?_) (fun c_52 => ?_)
    · skip
      replace h := (if_pos c_52).symm.trans h
      refine lv_iconst (v := (-1)) hx hb dX0_checkCase_56 (by decide) ?_
      exact B_57 cs1 u0 u1 u2 y0 (-1) h _ _ _ hP hD hS (lv_sub hl [1, 2, 3, 0] rfl)
    · skip
      replace h := (if_neg c_52).symm.trans h
      refine lv_aload_n hx hb dX0_checkCase_42 rfl (lv_at hl 1 rfl) ?_
      replace h := ob h; obtain ⟨v_53, hv_53, h⟩ := h
      refine fg_X0_25 hx hb hts hown hK hP hv_53 dX0_checkCase_43 ?_
      replace h := ob h; obtain ⟨i_54, hi_54, h⟩ := h
      subst hi_54
      replace h := ob h; obtain ⟨v_55, hv_55, h⟩ := h
      refine fg_X0_272 hx hb hts hown hK hP hv_55 dX0_checkCase_46 ?_
      refine lv_iload_n hx hb dX0_checkCase_49 rfl (lv_at hl 0 rfl) ?_
      replace h := ob h; obtain ⟨v_56, hv_56, h⟩ := h
      refine ald0 hx hb hK hP rfl hv_56 dX0_checkCase_50 ?_
      refine lv_iconst (v := 1) hx hb dX0_checkCase_51 (by decide) ?_
      refine lv_isub hx hb dX0_checkCase_52 ?_
      refine lv_goto (tgt := 57) hx hb dX0_checkCase_53 (by decide) ?_
      exact B_57 cs1 u0 u1 u2 y0 (v_56 - 1) h _ _ _ hP hD hS (lv_sub hl [1, 2, 3, 0] rfl)
  have h := hf
  unfold c_X0_checkCase at h
  refine lv_iload_n hx hb dX0_checkCase_0 rfl (lv_at hl 1 rfl) ?_
  refine lv_iconst (v := 1) hx hb dX0_checkCase_1 (by decide) ?_
  refine lv_isub hx hb dX0_checkCase_2 ?_
  refine lv_istore_n (lv' := [(2, .int (x1 - 1)), (0, .ref (b + x0)), (1, .int x1)]) hx hb dX0_checkCase_3 rfl hl (by decide) rfl (fun ls hl => ?_)
  refine lv_aload_n hx hb dX0_checkCase_4 rfl (lv_at hl 1 rfl) ?_
  replace h := ob h; obtain ⟨v_57, hv_57, h⟩ := h
  refine fg_X0_25 hx hb hts hown hK hP hv_57 dX0_checkCase_5 ?_
  refine lv_iload_n hx hb dX0_checkCase_8 rfl (lv_at hl 0 rfl) ?_
  replace h := ob h; obtain ⟨i_59, hi_59, h⟩ := h
  subst hi_59
  replace h := ob h; obtain ⟨w_60, hw_60, h⟩ := h
  replace h := ob h; obtain ⟨v_58, hv_58, h⟩ := h
  refine ccI (As := [.int (x1 - 1)]) hx hb hml hts hown hK hP hD hS hA hZ (X := 2) (by decide) rfl (ckE_some hw_60) (sc_X1_has l dC dI cB cI cJ cZ cS cO b K V fz F cs i_59 (x1 - 1) v_58 hv_58) (cw_X0_X1_has hts (fr := 0) (Nat.le_of_ble_eq_true rfl) (Nat.le_of_ble_eq_true rfl)) rfl hl.1 (Nat.le_of_ble_eq_true rfl) ⟨Nat.zero_le _, Nat.zero_le _⟩ dX0_checkCase_9 (fun H locs hP hD hS => ?_)
  refine lv_if_eq (tgt := 29) hx hb dX0_checkCase_12 (by decide) (fun c_61 => ?_) (fun c_61 => ?_)
  · skip
    replace h := (if_pos c_61).symm.trans h
    refine lv_iconst (v := (-1)) hx hb dX0_checkCase_29 (by decide) ?_
    exact B_30 cs x0 x1 (x1 - 1) (-1) h _ _ _ hP hD hS (lv_sub hl [1, 2, 0] rfl)
  · skip
    replace h := (if_neg c_61).symm.trans h
    refine lv_aload_n hx hb dX0_checkCase_15 rfl (lv_at hl 1 rfl) ?_
    replace h := ob h; obtain ⟨v_62, hv_62, h⟩ := h
    refine fg_X0_25 hx hb hts hown hK hP hv_62 dX0_checkCase_16 ?_
    replace h := ob h; obtain ⟨i_63, hi_63, h⟩ := h
    subst hi_63
    replace h := ob h; obtain ⟨v_64, hv_64, h⟩ := h
    refine fg_X0_272 hx hb hts hown hK hP hv_64 dX0_checkCase_19 ?_
    refine lv_iload_n hx hb dX0_checkCase_22 rfl (lv_at hl 0 rfl) ?_
    replace h := ob h; obtain ⟨v_65, hv_65, h⟩ := h
    refine ald0 hx hb hK hP rfl hv_65 dX0_checkCase_23 ?_
    refine lv_iconst (v := 1) hx hb dX0_checkCase_24 (by decide) ?_
    refine lv_isub hx hb dX0_checkCase_25 ?_
    refine lv_goto (tgt := 30) hx hb dX0_checkCase_26 (by decide) ?_
    exact B_30 cs x0 x1 (x1 - 1) (v_65 - 1) h _ _ _ hP hD hS (lv_sub hl [1, 2, 0] rfl)
theorem dX0_checkAct_0 : decode cX0_checkAct 0 = .ok (.aload_n 0, 1) := by decide +kernel
theorem dX0_checkAct_1 : decode cX0_checkAct 1 = .ok (.getfield 25, 3) := by decide +kernel
theorem dX0_checkAct_4 : decode cX0_checkAct 4 = .ok (.getfield 278, 3) := by decide +kernel
theorem dX0_checkAct_7 : decode cX0_checkAct 7 = .ok (.iload_n 1, 1) := by decide +kernel
theorem dX0_checkAct_8 : decode cX0_checkAct 8 = .ok (.iaload, 1) := by decide +kernel
theorem dX0_checkAct_9 : decode cX0_checkAct 9 = .ok (.tableswitch 254 19 61 #[236, 254, 254, 254, 254, 213, 226, 200, 244, 226, 226, 213, 213, 187, 254, 254, 254, 254, 254, 254, 254, 187, 254, 254, 254, 254, 254, 254, 254, 254, 254, 244, 244, 244, 244, 244, 244, 254, 254, 254, 213, 244, 187], 187) := by decide +kernel
theorem dX0_checkAct_196 : decode cX0_checkAct 196 = .ok (.aload_n 0, 1) := by decide +kernel
theorem dX0_checkAct_197 : decode cX0_checkAct 197 = .ok (.getfield 25, 3) := by decide +kernel
theorem dX0_checkAct_200 : decode cX0_checkAct 200 = .ok (.getfield 271, 3) := by decide +kernel
theorem dX0_checkAct_203 : decode cX0_checkAct 203 = .ok (.iload_n 1, 1) := by decide +kernel
theorem dX0_checkAct_204 : decode cX0_checkAct 204 = .ok (.iconst 1, 1) := by decide +kernel
theorem dX0_checkAct_205 : decode cX0_checkAct 205 = .ok (.iastore, 1) := by decide +kernel
theorem dX0_checkAct_206 : decode cX0_checkAct 206 = .ok (.goto 64, 3) := by decide +kernel
theorem dX0_checkAct_209 : decode cX0_checkAct 209 = .ok (.aload_n 0, 1) := by decide +kernel
theorem dX0_checkAct_210 : decode cX0_checkAct 210 = .ok (.getfield 25, 3) := by decide +kernel
theorem dX0_checkAct_213 : decode cX0_checkAct 213 = .ok (.getfield 271, 3) := by decide +kernel
theorem dX0_checkAct_216 : decode cX0_checkAct 216 = .ok (.iload_n 1, 1) := by decide +kernel
theorem dX0_checkAct_217 : decode cX0_checkAct 217 = .ok (.iconst 3, 1) := by decide +kernel
theorem dX0_checkAct_218 : decode cX0_checkAct 218 = .ok (.iastore, 1) := by decide +kernel
theorem dX0_checkAct_219 : decode cX0_checkAct 219 = .ok (.goto 51, 3) := by decide +kernel
theorem dX0_checkAct_222 : decode cX0_checkAct 222 = .ok (.aload_n 0, 1) := by decide +kernel
theorem dX0_checkAct_223 : decode cX0_checkAct 223 = .ok (.getfield 25, 3) := by decide +kernel
theorem dX0_checkAct_226 : decode cX0_checkAct 226 = .ok (.getfield 271, 3) := by decide +kernel
theorem dX0_checkAct_229 : decode cX0_checkAct 229 = .ok (.iload_n 1, 1) := by decide +kernel
theorem dX0_checkAct_230 : decode cX0_checkAct 230 = .ok (.iconst 2, 1) := by decide +kernel
theorem dX0_checkAct_231 : decode cX0_checkAct 231 = .ok (.iastore, 1) := by decide +kernel
theorem dX0_checkAct_232 : decode cX0_checkAct 232 = .ok (.goto 38, 3) := by decide +kernel
theorem dX0_checkAct_235 : decode cX0_checkAct 235 = .ok (.aload_n 0, 1) := by decide +kernel
theorem dX0_checkAct_236 : decode cX0_checkAct 236 = .ok (.iload_n 1, 1) := by decide +kernel
theorem dX0_checkAct_237 : decode cX0_checkAct 237 = .ok (.iconst 2, 1) := by decide +kernel
theorem dX0_checkAct_238 : decode cX0_checkAct 238 = .ok (.iconst 2, 1) := by decide +kernel
theorem dX0_checkAct_239 : decode cX0_checkAct 239 = .ok (.invokevirtual 302, 3) := by decide +kernel
theorem dX0_checkAct_242 : decode cX0_checkAct 242 = .ok (.goto 28, 3) := by decide +kernel
theorem dX0_checkAct_245 : decode cX0_checkAct 245 = .ok (.aload_n 0, 1) := by decide +kernel
theorem dX0_checkAct_246 : decode cX0_checkAct 246 = .ok (.iload_n 1, 1) := by decide +kernel
theorem dX0_checkAct_247 : decode cX0_checkAct 247 = .ok (.invokevirtual 306, 3) := by decide +kernel
theorem dX0_checkAct_250 : decode cX0_checkAct 250 = .ok (.goto 20, 3) := by decide +kernel
theorem dX0_checkAct_253 : decode cX0_checkAct 253 = .ok (.aload_n 0, 1) := by decide +kernel
theorem dX0_checkAct_254 : decode cX0_checkAct 254 = .ok (.iload_n 1, 1) := by decide +kernel
theorem dX0_checkAct_255 : decode cX0_checkAct 255 = .ok (.iconst 1, 1) := by decide +kernel
theorem dX0_checkAct_256 : decode cX0_checkAct 256 = .ok (.iconst 2, 1) := by decide +kernel
theorem dX0_checkAct_257 : decode cX0_checkAct 257 = .ok (.invokevirtual 302, 3) := by decide +kernel
theorem dX0_checkAct_260 : decode cX0_checkAct 260 = .ok (.goto 10, 3) := by decide +kernel
theorem dX0_checkAct_263 : decode cX0_checkAct 263 = .ok (.aload_n 0, 1) := by decide +kernel
theorem dX0_checkAct_264 : decode cX0_checkAct 264 = .ok (.iload_n 1, 1) := by decide +kernel
theorem dX0_checkAct_265 : decode cX0_checkAct 265 = .ok (.iconst 1, 1) := by decide +kernel
theorem dX0_checkAct_266 : decode cX0_checkAct 266 = .ok (.iconst 1, 1) := by decide +kernel
theorem dX0_checkAct_267 : decode cX0_checkAct 267 = .ok (.invokevirtual 302, 3) := by decide +kernel
theorem dX0_checkAct_270 : decode cX0_checkAct 270 = .ok (.return_, 1) := by decide +kernel
def c_X0_checkAct_b270 (F : Nat) (cs1 : CS) : Option CS := some cs1
def c_X0_checkAct_b196 (F : Nat) (cs1 : CS) (u0 : Nat) (u1 : Int32) : Option CS := Option.bind (gR cs1 1 34 u0) fun v_1 => Option.bind (v_1) fun i_2 => Option.bind (gA cs1 2 73 i_2) fun v_3 => Option.bind (wA cs1 73 i_2 v_3 u1 1) fun cs_4 => c_X0_checkAct_b270 F cs_4
def c_X0_checkAct_b222 (F : Nat) (cs1 : CS) (u0 : Nat) (u1 : Int32) : Option CS := Option.bind (gR cs1 1 34 u0) fun v_5 => Option.bind (v_5) fun i_6 => Option.bind (gA cs1 2 73 i_6) fun v_7 => Option.bind (wA cs1 73 i_6 v_7 u1 2) fun cs_8 => c_X0_checkAct_b270 F cs_8
def c_X0_checkAct_b235 (F : Nat) (cs1 : CS) (u0 : Nat) (u1 : Int32) : Option CS := Option.bind (ckE cs1 1 u0) fun _ => Option.bind (c_X0_wantParts F cs1 u0 u1 2 2) fun cs_9 => c_X0_checkAct_b270 F cs_9
def c_X0_checkAct_b253 (F : Nat) (cs1 : CS) (u0 : Nat) (u1 : Int32) : Option CS := Option.bind (ckE cs1 1 u0) fun _ => Option.bind (c_X0_wantParts F cs1 u0 u1 1 2) fun cs_11 => c_X0_checkAct_b270 F cs_11
def c_X0_checkAct_b263 (F : Nat) (cs1 : CS) (u0 : Nat) (u1 : Int32) : Option CS := Option.bind (ckE cs1 1 u0) fun _ => Option.bind (c_X0_wantParts F cs1 u0 u1 1 1) fun cs_13 => c_X0_checkAct_b270 F cs_13
def c_X0_checkAct (F : Nat) (cs : CS) (x0 : Nat) (x1 : Int32) : Option CS := Option.bind (gR cs 1 34 x0) fun v_15 => Option.bind (v_15) fun i_16 => Option.bind (gA cs 2 65 i_16) fun v_17 => Option.bind (rA cs 65 i_16 v_17 x1) fun v_18 => if v_18 = 19 then (Option.bind (ckE cs 1 x0) fun _ => Option.bind (c_X0_checkCase F cs x0 x1) fun cs_20 => c_X0_checkAct_b270 F cs_20) else (if v_18 = 24 then (c_X0_checkAct_b222 F cs x0 x1) else (if v_18 = 25 then (c_X0_checkAct_b235 F cs x0 x1) else (if v_18 = 26 then (Option.bind (gR cs 1 34 x0) fun v_25 => Option.bind (v_25) fun i_26 => Option.bind (gA cs 2 73 i_26) fun v_27 => Option.bind (wA cs 73 i_26 v_27 x1 3) fun cs_28 => c_X0_checkAct_b270 F cs_28) else (if v_18 = 27 then (c_X0_checkAct_b253 F cs x0 x1) else (if v_18 = 28 then (c_X0_checkAct_b235 F cs x0 x1) else (if v_18 = 29 then (c_X0_checkAct_b235 F cs x0 x1) else (if v_18 = 30 then (c_X0_checkAct_b222 F cs x0 x1) else (if v_18 = 31 then (c_X0_checkAct_b222 F cs x0 x1) else (if v_18 = 32 then (c_X0_checkAct_b196 F cs x0 x1) else (if v_18 = 40 then (c_X0_checkAct_b196 F cs x0 x1) else (if v_18 = 50 then (c_X0_checkAct_b253 F cs x0 x1) else (if v_18 = 51 then (c_X0_checkAct_b253 F cs x0 x1) else (if v_18 = 52 then (c_X0_checkAct_b253 F cs x0 x1) else (if v_18 = 53 then (c_X0_checkAct_b253 F cs x0 x1) else (if v_18 = 54 then (c_X0_checkAct_b253 F cs x0 x1) else (if v_18 = 55 then (c_X0_checkAct_b253 F cs x0 x1) else (if v_18 = 59 then (c_X0_checkAct_b222 F cs x0 x1) else (if v_18 = 60 then (c_X0_checkAct_b253 F cs x0 x1) else (if v_18 = 61 then (c_X0_checkAct_b196 F cs x0 x1) else (c_X0_checkAct_b263 F cs x0 x1))))))))))))))))))))
theorem cw_X0_X0_checkAct {R : Room} {s : State} {args : Array Value} {y0 : MethodName} {c0 : ByteArray} {n0 : Nat} {r0 : Option FieldType} (hts : ∀ w ∈ wsOf y0 c0 n0 r0, w.before args s = true) {fr : Nat} (h1 : fr + 1 ≤ R.frames) (h2 : 8 + (2 + 11) + 60 * fr ≤ R.locals) : CallW R s args RX0 RX0 281 yX0_checkAct cX0_checkAct 2 none (wsOf yX0_checkAct cX0_checkAct 2 none) ({ frames := fr, cells := 0, slots := 0, locals := 60 * fr } : Room) 0 0 1 := cwV 1 hts (gd_all (in_V kw_1250 kw_1252 kw_54 kw_204 kc_X0_checkAct)) rfl rfl rfl (by decide +kernel) ⟨h1, h2⟩
set_option maxHeartbeats 4000000 in
set_option maxRecDepth 100000 in
theorem sc_X0_checkAct (l : Launch) (dC : Nat → ClassId) (dI : Nat → Nat → Nat) (cB cI cJ cZ cS cO : ClassId) (b : Nat) (K V : Nat → Nat) (fz : Value) (F : Nat) (cs : CS) (x0 : Nat) (x1 : Int32) (cs9 : CS) (hf : c_X0_checkAct F cs x0 x1 = some cs9) : ocV l dC dI cB cI cJ cZ cS cO b K V fz yX0_checkAct (wsOf yX0_checkAct cX0_checkAct 2 none) (2) [.ref (b + x0), .int x1] cs cs9 := by
  intro sz
  refine Met.ofW (cc := cX0_checkAct) (maxL := 2) (ret := none) (by decide) rfl ?_
  intro p e s m args below meth c s₁ B hml hv
  obtain ⟨rfl, hsz, hP, hK, hD0, hZ⟩ := hv
  have hx := B.exec
  have hb := B.bytes
  have hr := B.returns
  have hts := atoms_spec (ws := (wsOf yX0_checkAct cX0_checkAct 2 none)) B.pre
  have hown : s.vm.findClass RX0 = some m.cls := findClass_of_methodNamed B.named
  have hlocks := B.notSynchronized
  subst hsz
  have hD := hD0.self (sz := s.heap.size)
  generalize hAe : va_A (cW cB cI cJ cZ cS cO b cs) s.heap.size = A at hD hZ ⊢
  have hA : ∀ q : Nat, s.heap.size ≤ q → A q := fun q h => by rw [← hAe]; exact Or.inr h
  have hS : va_S A s.heap s.heap [] := va_S.rf
  have hl := lv_entry ([.ref (b + x0), .int x1]) (n := 2) (Nat.le_of_ble_eq_true rfl)
  rw [lg_entry_eq]
  generalize (lg_sl ([.ref (b + x0), .int x1]) ++ List.replicate (2 - (lg_sl ([.ref (b + x0), .int x1])).length) Slot.unset).toArray = ls at hl ⊢
  have hl : lv_has ls 2 [(0, .ref (b + x0)), (1, .int x1)] := hl
  have B_270 : ∀ (cs1 : CS) , c_X0_checkAct_b270 F cs1 = some cs9 → ∀ (H : Heap) (locs : List Loc) (ls : Array Slot), va_P (dC, dI) vwCl (cW cB cI cJ cZ cS cO b cs1) H → va_D A (cW cB cI cJ cZ cS cO b cs1) → va_S A s.heap H locs → lv_has ls 2 [] → W p l e (headSpec (wsOf yX0_checkAct cX0_checkAct 2 none) ({ frames := 2, cells := 0, slots := 0, locals := 60 * (2) } : Room)).room s m ([.ref (b + x0), .int x1] : List Value).toArray below meth c H locs 0 0 (MQ below (va_Qv (fun (_ : Unit) => True) (fun _ t_ => va_P (dC, dI) vwCl (cW cB cI cJ cZ cS cO b cs9) t_.heap ∧ va_D A (cW cB cI cJ cZ cS cO b cs9)) A) ([.ref (b + x0), .int x1] : List Value).toArray s 0 0 A) (F0 m 270 ls []) := by
    intro cs1  h H locs ls hP hD hS hl
    unfold c_X0_checkAct_b270 at h
    have e1 := Option.some.inj h
    rw [e1] at hP hD
    exact W.vret hx hb hr (fun t_ ht hW => ⟨⟨(), rfl, trivial, by rw [ht]; exact hP, hD⟩, hS.F ht⟩) hS.2.2 dX0_checkAct_270
  have B_196 : ∀ (cs1 : CS) (u0 : Nat) (u1 : Int32), c_X0_checkAct_b196 F cs1 u0 u1 = some cs9 → ∀ (H : Heap) (locs : List Loc) (ls : Array Slot), va_P (dC, dI) vwCl (cW cB cI cJ cZ cS cO b cs1) H → va_D A (cW cB cI cJ cZ cS cO b cs1) → va_S A s.heap H locs → lv_has ls 2 [(0, .ref (b + u0)), (1, .int u1)] → W p l e (headSpec (wsOf yX0_checkAct cX0_checkAct 2 none) ({ frames := 2, cells := 0, slots := 0, locals := 60 * (2) } : Room)).room s m ([.ref (b + x0), .int x1] : List Value).toArray below meth c H locs 0 0 (MQ below (va_Qv (fun (_ : Unit) => True) (fun _ t_ => va_P (dC, dI) vwCl (cW cB cI cJ cZ cS cO b cs9) t_.heap ∧ va_D A (cW cB cI cJ cZ cS cO b cs9)) A) ([.ref (b + x0), .int x1] : List Value).toArray s 0 0 A) (F0 m 196 ls []) := by
    intro cs1 u0 u1 h H locs ls hP hD hS hl
    unfold c_X0_checkAct_b196 at h
    refine lv_aload_n hx hb dX0_checkAct_196 rfl (lv_at hl 0 rfl) ?_
    replace h := ob h; obtain ⟨v_1, hv_1, h⟩ := h
    refine fg_X0_25 hx hb hts hown hK hP hv_1 dX0_checkAct_197 ?_
    replace h := ob h; obtain ⟨i_2, hi_2, h⟩ := h
    subst hi_2
    replace h := ob h; obtain ⟨v_3, hv_3, h⟩ := h
    refine fg_X0_271 hx hb hts hown hK hP hv_3 dX0_checkAct_200 ?_
    refine lv_iload_n hx hb dX0_checkAct_203 rfl (lv_at hl 1 rfl) ?_
    refine lv_iconst (v := 1) hx hb dX0_checkAct_204 (by decide) ?_
    replace h := ob h; obtain ⟨cs_4, hv_4, h⟩ := h
    refine ast0 hx hb hK hP hD hS rfl hv_4 dX0_checkAct_205 (fun H locs hP hD hS => ?_)
    refine lv_goto (tgt := 270) hx hb dX0_checkAct_206 (by decide) ?_
    exact B_270 cs_4 h _ _ _ hP hD hS (lv_sub hl [] rfl)
  have B_222 : ∀ (cs1 : CS) (u0 : Nat) (u1 : Int32), c_X0_checkAct_b222 F cs1 u0 u1 = some cs9 → ∀ (H : Heap) (locs : List Loc) (ls : Array Slot), va_P (dC, dI) vwCl (cW cB cI cJ cZ cS cO b cs1) H → va_D A (cW cB cI cJ cZ cS cO b cs1) → va_S A s.heap H locs → lv_has ls 2 [(0, .ref (b + u0)), (1, .int u1)] → W p l e (headSpec (wsOf yX0_checkAct cX0_checkAct 2 none) ({ frames := 2, cells := 0, slots := 0, locals := 60 * (2) } : Room)).room s m ([.ref (b + x0), .int x1] : List Value).toArray below meth c H locs 0 0 (MQ below (va_Qv (fun (_ : Unit) => True) (fun _ t_ => va_P (dC, dI) vwCl (cW cB cI cJ cZ cS cO b cs9) t_.heap ∧ va_D A (cW cB cI cJ cZ cS cO b cs9)) A) ([.ref (b + x0), .int x1] : List Value).toArray s 0 0 A) (F0 m 222 ls []) := by
    intro cs1 u0 u1 h H locs ls hP hD hS hl
    unfold c_X0_checkAct_b222 at h
    refine lv_aload_n hx hb dX0_checkAct_222 rfl (lv_at hl 0 rfl) ?_
    replace h := ob h; obtain ⟨v_5, hv_5, h⟩ := h
    refine fg_X0_25 hx hb hts hown hK hP hv_5 dX0_checkAct_223 ?_
    replace h := ob h; obtain ⟨i_6, hi_6, h⟩ := h
    subst hi_6
    replace h := ob h; obtain ⟨v_7, hv_7, h⟩ := h
    refine fg_X0_271 hx hb hts hown hK hP hv_7 dX0_checkAct_226 ?_
    refine lv_iload_n hx hb dX0_checkAct_229 rfl (lv_at hl 1 rfl) ?_
    refine lv_iconst (v := 2) hx hb dX0_checkAct_230 (by decide) ?_
    replace h := ob h; obtain ⟨cs_8, hv_8, h⟩ := h
    refine ast0 hx hb hK hP hD hS rfl hv_8 dX0_checkAct_231 (fun H locs hP hD hS => ?_)
    refine lv_goto (tgt := 270) hx hb dX0_checkAct_232 (by decide) ?_
    exact B_270 cs_8 h _ _ _ hP hD hS (lv_sub hl [] rfl)
  have B_235 : ∀ (cs1 : CS) (u0 : Nat) (u1 : Int32), c_X0_checkAct_b235 F cs1 u0 u1 = some cs9 → ∀ (H : Heap) (locs : List Loc) (ls : Array Slot), va_P (dC, dI) vwCl (cW cB cI cJ cZ cS cO b cs1) H → va_D A (cW cB cI cJ cZ cS cO b cs1) → va_S A s.heap H locs → lv_has ls 2 [(0, .ref (b + u0)), (1, .int u1)] → W p l e (headSpec (wsOf yX0_checkAct cX0_checkAct 2 none) ({ frames := 2, cells := 0, slots := 0, locals := 60 * (2) } : Room)).room s m ([.ref (b + x0), .int x1] : List Value).toArray below meth c H locs 0 0 (MQ below (va_Qv (fun (_ : Unit) => True) (fun _ t_ => va_P (dC, dI) vwCl (cW cB cI cJ cZ cS cO b cs9) t_.heap ∧ va_D A (cW cB cI cJ cZ cS cO b cs9)) A) ([.ref (b + x0), .int x1] : List Value).toArray s 0 0 A) (F0 m 235 ls []) := by
    intro cs1 u0 u1 h H locs ls hP hD hS hl
    unfold c_X0_checkAct_b235 at h
    refine lv_aload_n hx hb dX0_checkAct_235 rfl (lv_at hl 0 rfl) ?_
    refine lv_iload_n hx hb dX0_checkAct_236 rfl (lv_at hl 1 rfl) ?_
    refine lv_iconst (v := 2) hx hb dX0_checkAct_237 (by decide) ?_
    refine lv_iconst (v := 2) hx hb dX0_checkAct_238 (by decide) ?_
    replace h := ob h; obtain ⟨w_10, hw_10, h⟩ := h
    replace h := ob h; obtain ⟨cs_9, hv_9, h⟩ := h
    refine ccV (As := [.int u1, .int 2, .int 2]) hx hb hml hts hown hK hP hD hS hA hZ (X := 1) (by decide) rfl (ckE_some hw_10) (sc_X0_wantParts l dC dI cB cI cJ cZ cS cO b K V fz F cs1 u0 u1 2 2 cs_9 hv_9) (cw_X0_X0_wantParts hts (fr := 1) (Nat.le_of_ble_eq_true rfl) (Nat.le_of_ble_eq_true rfl)) rfl hl.1 (Nat.le_of_ble_eq_true rfl) ⟨Nat.zero_le _, Nat.zero_le _⟩ dX0_checkAct_239 (fun H locs hP hD hS => ?_)
    refine lv_goto (tgt := 270) hx hb dX0_checkAct_242 (by decide) ?_
    exact B_270 cs_9 h _ _ _ hP hD hS (lv_sub hl [] rfl)
  have B_253 : ∀ (cs1 : CS) (u0 : Nat) (u1 : Int32), c_X0_checkAct_b253 F cs1 u0 u1 = some cs9 → ∀ (H : Heap) (locs : List Loc) (ls : Array Slot), va_P (dC, dI) vwCl (cW cB cI cJ cZ cS cO b cs1) H → va_D A (cW cB cI cJ cZ cS cO b cs1) → va_S A s.heap H locs → lv_has ls 2 [(0, .ref (b + u0)), (1, .int u1)] → W p l e (headSpec (wsOf yX0_checkAct cX0_checkAct 2 none) ({ frames := 2, cells := 0, slots := 0, locals := 60 * (2) } : Room)).room s m ([.ref (b + x0), .int x1] : List Value).toArray below meth c H locs 0 0 (MQ below (va_Qv (fun (_ : Unit) => True) (fun _ t_ => va_P (dC, dI) vwCl (cW cB cI cJ cZ cS cO b cs9) t_.heap ∧ va_D A (cW cB cI cJ cZ cS cO b cs9)) A) ([.ref (b + x0), .int x1] : List Value).toArray s 0 0 A) (F0 m 253 ls []) := by
    intro cs1 u0 u1 h H locs ls hP hD hS hl
    unfold c_X0_checkAct_b253 at h
    refine lv_aload_n hx hb dX0_checkAct_253 rfl (lv_at hl 0 rfl) ?_
    refine lv_iload_n hx hb dX0_checkAct_254 rfl (lv_at hl 1 rfl) ?_
    refine lv_iconst (v := 1) hx hb dX0_checkAct_255 (by decide) ?_
    refine lv_iconst (v := 2) hx hb dX0_checkAct_256 (by decide) ?_
    replace h := ob h; obtain ⟨w_12, hw_12, h⟩ := h
    replace h := ob h; obtain ⟨cs_11, hv_11, h⟩ := h
    refine ccV (As := [.int u1, .int 1, .int 2]) hx hb hml hts hown hK hP hD hS hA hZ (X := 1) (by decide) rfl (ckE_some hw_12) (sc_X0_wantParts l dC dI cB cI cJ cZ cS cO b K V fz F cs1 u0 u1 1 2 cs_11 hv_11) (cw_X0_X0_wantParts hts (fr := 1) (Nat.le_of_ble_eq_true rfl) (Nat.le_of_ble_eq_true rfl)) rfl hl.1 (Nat.le_of_ble_eq_true rfl) ⟨Nat.zero_le _, Nat.zero_le _⟩ dX0_checkAct_257 (fun H locs hP hD hS => ?_)
    refine lv_goto (tgt := 270) hx hb dX0_checkAct_260 (by decide) ?_
    exact B_270 cs_11 h _ _ _ hP hD hS (lv_sub hl [] rfl)
  have B_263 : ∀ (cs1 : CS) (u0 : Nat) (u1 : Int32), c_X0_checkAct_b263 F cs1 u0 u1 = some cs9 → ∀ (H : Heap) (locs : List Loc) (ls : Array Slot), va_P (dC, dI) vwCl (cW cB cI cJ cZ cS cO b cs1) H → va_D A (cW cB cI cJ cZ cS cO b cs1) → va_S A s.heap H locs → lv_has ls 2 [(0, .ref (b + u0)), (1, .int u1)] → W p l e (headSpec (wsOf yX0_checkAct cX0_checkAct 2 none) ({ frames := 2, cells := 0, slots := 0, locals := 60 * (2) } : Room)).room s m ([.ref (b + x0), .int x1] : List Value).toArray below meth c H locs 0 0 (MQ below (va_Qv (fun (_ : Unit) => True) (fun _ t_ => va_P (dC, dI) vwCl (cW cB cI cJ cZ cS cO b cs9) t_.heap ∧ va_D A (cW cB cI cJ cZ cS cO b cs9)) A) ([.ref (b + x0), .int x1] : List Value).toArray s 0 0 A) (F0 m 263 ls []) := by
    intro cs1 u0 u1 h H locs ls hP hD hS hl
    unfold c_X0_checkAct_b263 at h
    refine lv_aload_n hx hb dX0_checkAct_263 rfl (lv_at hl 0 rfl) ?_
    refine lv_iload_n hx hb dX0_checkAct_264 rfl (lv_at hl 1 rfl) ?_
    refine lv_iconst (v := 1) hx hb dX0_checkAct_265 (by decide) ?_
    refine lv_iconst (v := 1) hx hb dX0_checkAct_266 (by decide) ?_
    replace h := ob h; obtain ⟨w_14, hw_14, h⟩ := h
    replace h := ob h; obtain ⟨cs_13, hv_13, h⟩ := h
    refine ccV (As := [.int u1, .int 1, .int 1]) hx hb hml hts hown hK hP hD hS hA hZ (X := 1) (by decide) rfl (ckE_some hw_14) (sc_X0_wantParts l dC dI cB cI cJ cZ cS cO b K V fz F cs1 u0 u1 1 1 cs_13 hv_13) (cw_X0_X0_wantParts hts (fr := 1) (Nat.le_of_ble_eq_true rfl) (Nat.le_of_ble_eq_true rfl)) rfl hl.1 (Nat.le_of_ble_eq_true rfl) ⟨Nat.zero_le _, Nat.zero_le _⟩ dX0_checkAct_267 (fun H locs hP hD hS => ?_)
    exact B_270 cs_13 h _ _ _ hP hD hS (lv_sub hl [] rfl)
  have h := hf
  unfold c_X0_checkAct at h
  refine lv_aload_n hx hb dX0_checkAct_0 rfl (lv_at hl 0 rfl) ?_
  replace h := ob h; obtain ⟨v_15, hv_15, h⟩ := h
  refine fg_X0_25 hx hb hts hown hK hP hv_15 dX0_checkAct_1 ?_
  replace h := ob h; obtain ⟨i_16, hi_16, h⟩ := h
  subst hi_16
  replace h := ob h; obtain ⟨v_17, hv_17, h⟩ := h
  refine fg_X0_278 hx hb hts hown hK hP hv_17 dX0_checkAct_4 ?_
  refine lv_iload_n hx hb dX0_checkAct_7 rfl (lv_at hl 1 rfl) ?_
  replace h := ob h; obtain ⟨v_18, hv_18, h⟩ := h
  refine ald0 hx hb hK hP rfl hv_18 dX0_checkAct_8 ?_
  by_cases c_19 : v_18 = 19
  · skip
    replace h := (if_pos c_19).symm.trans h
    refine lv_tableIn (tgt := 245) (off := 236) hx hb dX0_checkAct_9 (by rw [c_19]; decide) (by rw [c_19]; decide) (by rw [c_19]; decide) (by decide) ?_
    refine lv_aload_n hx hb dX0_checkAct_245 rfl (lv_at hl 0 rfl) ?_
    refine lv_iload_n hx hb dX0_checkAct_246 rfl (lv_at hl 1 rfl) ?_
    replace h := ob h; obtain ⟨w_21, hw_21, h⟩ := h
    replace h := ob h; obtain ⟨cs_20, hv_20, h⟩ := h
    refine ccV (As := [.int x1]) hx hb hml hts hown hK hP hD hS hA hZ (X := 1) (by decide) rfl (ckE_some hw_21) (sc_X0_checkCase l dC dI cB cI cJ cZ cS cO b K V fz F cs x0 x1 cs_20 hv_20) (cw_X0_X0_checkCase hts (fr := 1) (Nat.le_of_ble_eq_true rfl) (Nat.le_of_ble_eq_true rfl)) rfl hl.1 (Nat.le_of_ble_eq_true rfl) ⟨Nat.zero_le _, Nat.zero_le _⟩ dX0_checkAct_247 (fun H locs hP hD hS => ?_)
    refine lv_goto (tgt := 270) hx hb dX0_checkAct_250 (by decide) ?_
    exact B_270 cs_20 h _ _ _ hP hD hS (lv_sub hl [] rfl)
  replace h := (if_neg c_19).symm.trans h
  by_cases c_22 : v_18 = 24
  · skip
    replace h := (if_pos c_22).symm.trans h
    refine lv_tableIn (tgt := 222) (off := 213) hx hb dX0_checkAct_9 (by rw [c_22]; decide) (by rw [c_22]; decide) (by rw [c_22]; decide) (by decide) ?_
    exact B_222 cs x0 x1 h _ _ _ hP hD hS (lv_sub hl [0, 1] rfl)
  replace h := (if_neg c_22).symm.trans h
  by_cases c_23 : v_18 = 25
  · skip
    replace h := (if_pos c_23).symm.trans h
    refine lv_tableIn (tgt := 235) (off := 226) hx hb dX0_checkAct_9 (by rw [c_23]; decide) (by rw [c_23]; decide) (by rw [c_23]; decide) (by decide) ?_
    exact B_235 cs x0 x1 h _ _ _ hP hD hS (lv_sub hl [0, 1] rfl)
  replace h := (if_neg c_23).symm.trans h
  by_cases c_24 : v_18 = 26
  · skip
    replace h := (if_pos c_24).symm.trans h
    refine lv_tableIn (tgt := 209) (off := 200) hx hb dX0_checkAct_9 (by rw [c_24]; decide) (by rw [c_24]; decide) (by rw [c_24]; decide) (by decide) ?_
    refine lv_aload_n hx hb dX0_checkAct_209 rfl (lv_at hl 0 rfl) ?_
    replace h := ob h; obtain ⟨v_25, hv_25, h⟩ := h
    refine fg_X0_25 hx hb hts hown hK hP hv_25 dX0_checkAct_210 ?_
    replace h := ob h; obtain ⟨i_26, hi_26, h⟩ := h
    subst hi_26
    replace h := ob h; obtain ⟨v_27, hv_27, h⟩ := h
    refine fg_X0_271 hx hb hts hown hK hP hv_27 dX0_checkAct_213 ?_
    refine lv_iload_n hx hb dX0_checkAct_216 rfl (lv_at hl 1 rfl) ?_
    refine lv_iconst (v := 3) hx hb dX0_checkAct_217 (by decide) ?_
    replace h := ob h; obtain ⟨cs_28, hv_28, h⟩ := h
    refine ast0 hx hb hK hP hD hS rfl hv_28 dX0_checkAct_218 (fun H locs hP hD hS => ?_)
    refine lv_goto (tgt := 270) hx hb dX0_checkAct_219 (by decide) ?_
    exact B_270 cs_28 h _ _ _ hP hD hS (lv_sub hl [] rfl)
  replace h := (if_neg c_24).symm.trans h
  by_cases c_29 : v_18 = 27
  · skip
    replace h := (if_pos c_29).symm.trans h
    refine lv_tableIn (tgt := 253) (off := 244) hx hb dX0_checkAct_9 (by rw [c_29]; decide) (by rw [c_29]; decide) (by rw [c_29]; decide) (by decide) ?_
    exact B_253 cs x0 x1 h _ _ _ hP hD hS (lv_sub hl [0, 1] rfl)
  replace h := (if_neg c_29).symm.trans h
  by_cases c_30 : v_18 = 28
  · skip
    replace h := (if_pos c_30).symm.trans h
    refine lv_tableIn (tgt := 235) (off := 226) hx hb dX0_checkAct_9 (by rw [c_30]; decide) (by rw [c_30]; decide) (by rw [c_30]; decide) (by decide) ?_
    exact B_235 cs x0 x1 h _ _ _ hP hD hS (lv_sub hl [0, 1] rfl)
  replace h := (if_neg c_30).symm.trans h
  by_cases c_31 : v_18 = 29
  · skip
    replace h := (if_pos c_31).symm.trans h
    refine lv_tableIn (tgt := 235) (off := 226) hx hb dX0_checkAct_9 (by rw [c_31]; decide) (by rw [c_31]; decide) (by rw [c_31]; decide) (by decide) ?_
    exact B_235 cs x0 x1 h _ _ _ hP hD hS (lv_sub hl [0, 1] rfl)
  replace h := (if_neg c_31).symm.trans h
  by_cases c_32 : v_18 = 30
  · skip
    replace h := (if_pos c_32).symm.trans h
    refine lv_tableIn (tgt := 222) (off := 213) hx hb dX0_checkAct_9 (by rw [c_32]; decide) (by rw [c_32]; decide) (by rw [c_32]; decide) (by decide) ?_
    exact B_222 cs x0 x1 h _ _ _ hP hD hS (lv_sub hl [0, 1] rfl)
  replace h := (if_neg c_32).symm.trans h
  by_cases c_33 : v_18 = 31
  · skip
    replace h := (if_pos c_33).symm.trans h
    refine lv_tableIn (tgt := 222) (off := 213) hx hb dX0_checkAct_9 (by rw [c_33]; decide) (by rw [c_33]; decide) (by rw [c_33]; decide) (by decide) ?_
    exact B_222 cs x0 x1 h _ _ _ hP hD hS (lv_sub hl [0, 1] rfl)
  replace h := (if_neg c_33).symm.trans h
  by_cases c_34 : v_18 = 32
  · skip
    replace h := (if_pos c_34).symm.trans h
    refine lv_tableIn (tgt := 196) (off := 187) hx hb dX0_checkAct_9 (by rw [c_34]; decide) (by rw [c_34]; decide) (by rw [c_34]; decide) (by decide) ?_
    exact B_196 cs x0 x1 h _ _ _ hP hD hS (lv_sub hl [0, 1] rfl)
  replace h := (if_neg c_34).symm.trans h
  by_cases c_35 : v_18 = 40
  · skip
    replace h := (if_pos c_35).symm.trans h
    refine lv_tableIn (tgt := 196) (off := 187) hx hb dX0_checkAct_9 (by rw [c_35]; decide) (by rw [c_35]; decide) (by rw [c_35]; decide) (by decide) ?_
    exact B_196 cs x0 x1 h _ _ _ hP hD hS (lv_sub hl [0, 1] rfl)
  replace h := (if_neg c_35).symm.trans h
  by_cases c_36 : v_18 = 50
  · skip
    replace h := (if_pos c_36).symm.trans h
    refine lv_tableIn (tgt := 253) (off := 244) hx hb dX0_checkAct_9 (by rw [c_36]; decide) (by rw [c_36]; decide) (by rw [c_36]; decide) (by decide) ?_
    exact B_253 cs x0 x1 h _ _ _ hP hD hS (lv_sub hl [0, 1] rfl)
  replace h := (if_neg c_36).symm.trans h
  by_cases c_37 : v_18 = 51
  · skip
    replace h := (if_pos c_37).symm.trans h
    refine lv_tableIn (tgt := 253) (off := 244) hx hb dX0_checkAct_9 (by rw [c_37]; decide) (by rw [c_37]; decide) (by rw [c_37]; decide) (by decide) ?_
    exact B_253 cs x0 x1 h _ _ _ hP hD hS (lv_sub hl [0, 1] rfl)
  replace h := (if_neg c_37).symm.trans h
  by_cases c_38 : v_18 = 52
  · skip
    replace h := (if_pos c_38).symm.trans h
    refine lv_tableIn (tgt := 253) (off := 244) hx hb dX0_checkAct_9 (by rw [c_38]; decide) (by rw [c_38]; decide) (by rw [c_38]; decide) (by decide) ?_
    exact B_253 cs x0 x1 h _ _ _ hP hD hS (lv_sub hl [0, 1] rfl)
  replace h := (if_neg c_38).symm.trans h
  by_cases c_39 : v_18 = 53
  · skip
    replace h := (if_pos c_39).symm.trans h
    refine lv_tableIn (tgt := 253) (off := 244) hx hb dX0_checkAct_9 (by rw [c_39]; decide) (by rw [c_39]; decide) (by rw [c_39]; decide) (by decide) ?_
    exact B_253 cs x0 x1 h _ _ _ hP hD hS (lv_sub hl [0, 1] rfl)
  replace h := (if_neg c_39).symm.trans h
  by_cases c_40 : v_18 = 54
  · skip
    replace h := (if_pos c_40).symm.trans h
    refine lv_tableIn (tgt := 253) (off := 244) hx hb dX0_checkAct_9 (by rw [c_40]; decide) (by rw [c_40]; decide) (by rw [c_40]; decide) (by decide) ?_
    exact B_253 cs x0 x1 h _ _ _ hP hD hS (lv_sub hl [0, 1] rfl)
  replace h := (if_neg c_40).symm.trans h
  by_cases c_41 : v_18 = 55
  · skip
    replace h := (if_pos c_41).symm.trans h
    refine lv_tableIn (tgt := 253) (off := 244) hx hb dX0_checkAct_9 (by rw [c_41]; decide) (by rw [c_41]; decide) (by rw [c_41]; decide) (by decide) ?_
    exact B_253 cs x0 x1 h _ _ _ hP hD hS (lv_sub hl [0, 1] rfl)
  replace h := (if_neg c_41).symm.trans h
  by_cases c_42 : v_18 = 59
  · skip
    replace h := (if_pos c_42).symm.trans h
    refine lv_tableIn (tgt := 222) (off := 213) hx hb dX0_checkAct_9 (by rw [c_42]; decide) (by rw [c_42]; decide) (by rw [c_42]; decide) (by decide) ?_
    exact B_222 cs x0 x1 h _ _ _ hP hD hS (lv_sub hl [0, 1] rfl)
  replace h := (if_neg c_42).symm.trans h
  by_cases c_43 : v_18 = 60
  · skip
    replace h := (if_pos c_43).symm.trans h
    refine lv_tableIn (tgt := 253) (off := 244) hx hb dX0_checkAct_9 (by rw [c_43]; decide) (by rw [c_43]; decide) (by rw [c_43]; decide) (by decide) ?_
    exact B_253 cs x0 x1 h _ _ _ hP hD hS (lv_sub hl [0, 1] rfl)
  replace h := (if_neg c_43).symm.trans h
  by_cases c_44 : v_18 = 61
  · skip
    replace h := (if_pos c_44).symm.trans h
    refine lv_tableIn (tgt := 196) (off := 187) hx hb dX0_checkAct_9 (by rw [c_44]; decide) (by rw [c_44]; decide) (by rw [c_44]; decide) (by decide) ?_
    exact B_196 cs x0 x1 h _ _ _ hP hD hS (lv_sub hl [0, 1] rfl)
  replace h := (if_neg c_44).symm.trans h
  have n_19 : ¬ (v_18 : Int32).toInt = 19 := lv_neT c_19 (by decide)
  have n_22 : ¬ (v_18 : Int32).toInt = 24 := lv_neT c_22 (by decide)
  have n_23 : ¬ (v_18 : Int32).toInt = 25 := lv_neT c_23 (by decide)
  have n_24 : ¬ (v_18 : Int32).toInt = 26 := lv_neT c_24 (by decide)
  have n_29 : ¬ (v_18 : Int32).toInt = 27 := lv_neT c_29 (by decide)
  have n_30 : ¬ (v_18 : Int32).toInt = 28 := lv_neT c_30 (by decide)
  have n_31 : ¬ (v_18 : Int32).toInt = 29 := lv_neT c_31 (by decide)
  have n_32 : ¬ (v_18 : Int32).toInt = 30 := lv_neT c_32 (by decide)
  have n_33 : ¬ (v_18 : Int32).toInt = 31 := lv_neT c_33 (by decide)
  have n_34 : ¬ (v_18 : Int32).toInt = 32 := lv_neT c_34 (by decide)
  have n_35 : ¬ (v_18 : Int32).toInt = 40 := lv_neT c_35 (by decide)
  have n_36 : ¬ (v_18 : Int32).toInt = 50 := lv_neT c_36 (by decide)
  have n_37 : ¬ (v_18 : Int32).toInt = 51 := lv_neT c_37 (by decide)
  have n_38 : ¬ (v_18 : Int32).toInt = 52 := lv_neT c_38 (by decide)
  have n_39 : ¬ (v_18 : Int32).toInt = 53 := lv_neT c_39 (by decide)
  have n_40 : ¬ (v_18 : Int32).toInt = 54 := lv_neT c_40 (by decide)
  have n_41 : ¬ (v_18 : Int32).toInt = 55 := lv_neT c_41 (by decide)
  have n_42 : ¬ (v_18 : Int32).toInt = 59 := lv_neT c_42 (by decide)
  have n_43 : ¬ (v_18 : Int32).toInt = 60 := lv_neT c_43 (by decide)
  have n_44 : ¬ (v_18 : Int32).toInt = 61 := lv_neT c_44 (by decide)
  by_cases hq_9 : (v_18 : Int32).toInt < 19 ∨ 61 < (v_18 : Int32).toInt
  · skip
    refine lv_tableOut (tgt := 263) hx hb dX0_checkAct_9 hq_9 (by decide) ?_
    exact B_263 cs x0 x1 h _ _ _ hP hD hS (lv_sub hl [0, 1] rfl)
  by_cases hq_9_20 : (v_18 : Int32).toInt = 20
  · skip
    refine lv_tableIn (tgt := 263) (off := 254) hx hb dX0_checkAct_9 (by omega) (by omega) (by rw [hq_9_20]; decide) (by decide) ?_
    exact B_263 cs x0 x1 h _ _ _ hP hD hS (lv_sub hl [0, 1] rfl)
  by_cases hq_9_21 : (v_18 : Int32).toInt = 21
  · skip
    refine lv_tableIn (tgt := 263) (off := 254) hx hb dX0_checkAct_9 (by omega) (by omega) (by rw [hq_9_21]; decide) (by decide) ?_
    exact B_263 cs x0 x1 h _ _ _ hP hD hS (lv_sub hl [0, 1] rfl)
  by_cases hq_9_22 : (v_18 : Int32).toInt = 22
  · skip
    refine lv_tableIn (tgt := 263) (off := 254) hx hb dX0_checkAct_9 (by omega) (by omega) (by rw [hq_9_22]; decide) (by decide) ?_
    exact B_263 cs x0 x1 h _ _ _ hP hD hS (lv_sub hl [0, 1] rfl)
  by_cases hq_9_23 : (v_18 : Int32).toInt = 23
  · skip
    refine lv_tableIn (tgt := 263) (off := 254) hx hb dX0_checkAct_9 (by omega) (by omega) (by rw [hq_9_23]; decide) (by decide) ?_
    exact B_263 cs x0 x1 h _ _ _ hP hD hS (lv_sub hl [0, 1] rfl)
  by_cases hq_9_33 : (v_18 : Int32).toInt = 33
  · skip
    refine lv_tableIn (tgt := 263) (off := 254) hx hb dX0_checkAct_9 (by omega) (by omega) (by rw [hq_9_33]; decide) (by decide) ?_
    exact B_263 cs x0 x1 h _ _ _ hP hD hS (lv_sub hl [0, 1] rfl)
  by_cases hq_9_34 : (v_18 : Int32).toInt = 34
  · skip
    refine lv_tableIn (tgt := 263) (off := 254) hx hb dX0_checkAct_9 (by omega) (by omega) (by rw [hq_9_34]; decide) (by decide) ?_
    exact B_263 cs x0 x1 h _ _ _ hP hD hS (lv_sub hl [0, 1] rfl)
  by_cases hq_9_35 : (v_18 : Int32).toInt = 35
  · skip
    refine lv_tableIn (tgt := 263) (off := 254) hx hb dX0_checkAct_9 (by omega) (by omega) (by rw [hq_9_35]; decide) (by decide) ?_
    exact B_263 cs x0 x1 h _ _ _ hP hD hS (lv_sub hl [0, 1] rfl)
  by_cases hq_9_36 : (v_18 : Int32).toInt = 36
  · skip
    refine lv_tableIn (tgt := 263) (off := 254) hx hb dX0_checkAct_9 (by omega) (by omega) (by rw [hq_9_36]; decide) (by decide) ?_
    exact B_263 cs x0 x1 h _ _ _ hP hD hS (lv_sub hl [0, 1] rfl)
  by_cases hq_9_37 : (v_18 : Int32).toInt = 37
  · skip
    refine lv_tableIn (tgt := 263) (off := 254) hx hb dX0_checkAct_9 (by omega) (by omega) (by rw [hq_9_37]; decide) (by decide) ?_
    exact B_263 cs x0 x1 h _ _ _ hP hD hS (lv_sub hl [0, 1] rfl)
  by_cases hq_9_38 : (v_18 : Int32).toInt = 38
  · skip
    refine lv_tableIn (tgt := 263) (off := 254) hx hb dX0_checkAct_9 (by omega) (by omega) (by rw [hq_9_38]; decide) (by decide) ?_
    exact B_263 cs x0 x1 h _ _ _ hP hD hS (lv_sub hl [0, 1] rfl)
  by_cases hq_9_39 : (v_18 : Int32).toInt = 39
  · skip
    refine lv_tableIn (tgt := 263) (off := 254) hx hb dX0_checkAct_9 (by omega) (by omega) (by rw [hq_9_39]; decide) (by decide) ?_
    exact B_263 cs x0 x1 h _ _ _ hP hD hS (lv_sub hl [0, 1] rfl)
  by_cases hq_9_41 : (v_18 : Int32).toInt = 41
  · skip
    refine lv_tableIn (tgt := 263) (off := 254) hx hb dX0_checkAct_9 (by omega) (by omega) (by rw [hq_9_41]; decide) (by decide) ?_
    exact B_263 cs x0 x1 h _ _ _ hP hD hS (lv_sub hl [0, 1] rfl)
  by_cases hq_9_42 : (v_18 : Int32).toInt = 42
  · skip
    refine lv_tableIn (tgt := 263) (off := 254) hx hb dX0_checkAct_9 (by omega) (by omega) (by rw [hq_9_42]; decide) (by decide) ?_
    exact B_263 cs x0 x1 h _ _ _ hP hD hS (lv_sub hl [0, 1] rfl)
  by_cases hq_9_43 : (v_18 : Int32).toInt = 43
  · skip
    refine lv_tableIn (tgt := 263) (off := 254) hx hb dX0_checkAct_9 (by omega) (by omega) (by rw [hq_9_43]; decide) (by decide) ?_
    exact B_263 cs x0 x1 h _ _ _ hP hD hS (lv_sub hl [0, 1] rfl)
  by_cases hq_9_44 : (v_18 : Int32).toInt = 44
  · skip
    refine lv_tableIn (tgt := 263) (off := 254) hx hb dX0_checkAct_9 (by omega) (by omega) (by rw [hq_9_44]; decide) (by decide) ?_
    exact B_263 cs x0 x1 h _ _ _ hP hD hS (lv_sub hl [0, 1] rfl)
  by_cases hq_9_45 : (v_18 : Int32).toInt = 45
  · skip
    refine lv_tableIn (tgt := 263) (off := 254) hx hb dX0_checkAct_9 (by omega) (by omega) (by rw [hq_9_45]; decide) (by decide) ?_
    exact B_263 cs x0 x1 h _ _ _ hP hD hS (lv_sub hl [0, 1] rfl)
  by_cases hq_9_46 : (v_18 : Int32).toInt = 46
  · skip
    refine lv_tableIn (tgt := 263) (off := 254) hx hb dX0_checkAct_9 (by omega) (by omega) (by rw [hq_9_46]; decide) (by decide) ?_
    exact B_263 cs x0 x1 h _ _ _ hP hD hS (lv_sub hl [0, 1] rfl)
  by_cases hq_9_47 : (v_18 : Int32).toInt = 47
  · skip
    refine lv_tableIn (tgt := 263) (off := 254) hx hb dX0_checkAct_9 (by omega) (by omega) (by rw [hq_9_47]; decide) (by decide) ?_
    exact B_263 cs x0 x1 h _ _ _ hP hD hS (lv_sub hl [0, 1] rfl)
  by_cases hq_9_48 : (v_18 : Int32).toInt = 48
  · skip
    refine lv_tableIn (tgt := 263) (off := 254) hx hb dX0_checkAct_9 (by omega) (by omega) (by rw [hq_9_48]; decide) (by decide) ?_
    exact B_263 cs x0 x1 h _ _ _ hP hD hS (lv_sub hl [0, 1] rfl)
  by_cases hq_9_49 : (v_18 : Int32).toInt = 49
  · skip
    refine lv_tableIn (tgt := 263) (off := 254) hx hb dX0_checkAct_9 (by omega) (by omega) (by rw [hq_9_49]; decide) (by decide) ?_
    exact B_263 cs x0 x1 h _ _ _ hP hD hS (lv_sub hl [0, 1] rfl)
  by_cases hq_9_56 : (v_18 : Int32).toInt = 56
  · skip
    refine lv_tableIn (tgt := 263) (off := 254) hx hb dX0_checkAct_9 (by omega) (by omega) (by rw [hq_9_56]; decide) (by decide) ?_
    exact B_263 cs x0 x1 h _ _ _ hP hD hS (lv_sub hl [0, 1] rfl)
  by_cases hq_9_57 : (v_18 : Int32).toInt = 57
  · skip
    refine lv_tableIn (tgt := 263) (off := 254) hx hb dX0_checkAct_9 (by omega) (by omega) (by rw [hq_9_57]; decide) (by decide) ?_
    exact B_263 cs x0 x1 h _ _ _ hP hD hS (lv_sub hl [0, 1] rfl)
  by_cases hq_9_58 : (v_18 : Int32).toInt = 58
  · skip
    refine lv_tableIn (tgt := 263) (off := 254) hx hb dX0_checkAct_9 (by omega) (by omega) (by rw [hq_9_58]; decide) (by decide) ?_
    exact B_263 cs x0 x1 h _ _ _ hP hD hS (lv_sub hl [0, 1] rfl)
  exfalso
  omega
theorem dX0_refuseUnlessOne_0 : decode cX0_refuseUnlessOne 0 = .ok (.iload_n 1, 1) := by decide +kernel
theorem dX0_refuseUnlessOne_1 : decode cX0_refuseUnlessOne 1 = .ok (.iconst 1, 1) := by decide +kernel
theorem dX0_refuseUnlessOne_2 : decode cX0_refuseUnlessOne 2 = .ok (.if_icmp .eq 28, 3) := by decide +kernel
theorem dX0_refuseUnlessOne_5 : decode cX0_refuseUnlessOne 5 = .ok (.aload_n 0, 1) := by decide +kernel
theorem dX0_refuseUnlessOne_6 : decode cX0_refuseUnlessOne 6 = .ok (.getfield 9, 3) := by decide +kernel
theorem dX0_refuseUnlessOne_9 : decode cX0_refuseUnlessOne 9 = .ok (.iload_n 1, 1) := by decide +kernel
theorem dX0_refuseUnlessOne_10 : decode cX0_refuseUnlessOne 10 = .ok (.ifCond .ne 7, 3) := by decide +kernel
theorem dX0_refuseUnlessOne_13 : decode cX0_refuseUnlessOne 13 = .ok (.iconst 2, 1) := by decide +kernel
theorem dX0_refuseUnlessOne_14 : decode cX0_refuseUnlessOne 14 = .ok (.goto 4, 3) := by decide +kernel
theorem dX0_refuseUnlessOne_17 : decode cX0_refuseUnlessOne 17 = .ok (.iconst 3, 1) := by decide +kernel
theorem dX0_refuseUnlessOne_18 : decode cX0_refuseUnlessOne 18 = .ok (.aload_n 0, 1) := by decide +kernel
theorem dX0_refuseUnlessOne_19 : decode cX0_refuseUnlessOne 19 = .ok (.getfield 25, 3) := by decide +kernel
theorem dX0_refuseUnlessOne_22 : decode cX0_refuseUnlessOne 22 = .ok (.getfield 246, 3) := by decide +kernel
theorem dX0_refuseUnlessOne_25 : decode cX0_refuseUnlessOne 25 = .ok (.iload_n 2, 1) := by decide +kernel
theorem dX0_refuseUnlessOne_26 : decode cX0_refuseUnlessOne 26 = .ok (.iaload, 1) := by decide +kernel
theorem dX0_refuseUnlessOne_27 : decode cX0_refuseUnlessOne 27 = .ok (.invokevirtual 76, 3) := by decide +kernel
theorem dX0_refuseUnlessOne_30 : decode cX0_refuseUnlessOne 30 = .ok (.return_, 1) := by decide +kernel
def c_X0_refuseUnlessOne_b30 (F : Nat) (cs1 : CS) : Option CS := some cs1
def c_X0_refuseUnlessOne_b18 (F : Nat) (cs1 : CS) (u0 : Nat) (u2 : Int32) (y0 : Int32) (y1 : Option Nat) : Option CS := Option.bind (gR cs1 1 34 u0) fun v_1 => Option.bind (v_1) fun i_2 => Option.bind (gA cs1 2 66 i_2) fun v_3 => Option.bind (rA cs1 66 i_2 v_3 u2) fun v_4 => Option.bind (y1) fun i_6 => Option.bind (ckE cs1 10 i_6) fun _ => Option.bind (c_X9_refuse F cs1 i_6 y0 v_4) fun cs_5 => c_X0_refuseUnlessOne_b30 F cs_5
def c_X0_refuseUnlessOne (F : Nat) (cs : CS) (x0 : Nat) (x1 : Int32) (x2 : Int32) : Option CS := if x1 = 1 then (c_X0_refuseUnlessOne_b30 F cs) else (Option.bind (gR cs 1 32 x0) fun v_9 => if x1 = 0 then (c_X0_refuseUnlessOne_b18 F cs x0 x2 2 v_9) else (c_X0_refuseUnlessOne_b18 F cs x0 x2 3 v_9))
theorem cw_X0_X0_refuseUnlessOne {R : Room} {s : State} {args : Array Value} {y0 : MethodName} {c0 : ByteArray} {n0 : Nat} {r0 : Option FieldType} (hts : ∀ w ∈ wsOf y0 c0 n0 r0, w.before args s = true) {fr : Nat} (h1 : fr + 1 ≤ R.frames) (h2 : 8 + (3 + 11) + 60 * fr ≤ R.locals) : CallW R s args RX0 RX0 299 yX0_refuseUnlessOne cX0_refuseUnlessOne 3 none (wsOf yX0_refuseUnlessOne cX0_refuseUnlessOne 3 none) ({ frames := fr, cells := 0, slots := 0, locals := 60 * fr } : Room) 0 0 2 := cwV 2 hts (gd_all (in_V kw_1268 kw_1270 kw_58 kw_204 kc_X0_refuseUnlessOne)) rfl rfl rfl (by decide +kernel) ⟨h1, h2⟩
set_option maxHeartbeats 4000000 in
set_option maxRecDepth 100000 in
theorem sc_X0_refuseUnlessOne (l : Launch) (dC : Nat → ClassId) (dI : Nat → Nat → Nat) (cB cI cJ cZ cS cO : ClassId) (b : Nat) (K V : Nat → Nat) (fz : Value) (F : Nat) (cs : CS) (x0 : Nat) (x1 : Int32) (x2 : Int32) (cs9 : CS) (hf : c_X0_refuseUnlessOne F cs x0 x1 x2 = some cs9) : ocV l dC dI cB cI cJ cZ cS cO b K V fz yX0_refuseUnlessOne (wsOf yX0_refuseUnlessOne cX0_refuseUnlessOne 3 none) (1) [.ref (b + x0), .int x1, .int x2] cs cs9 := by
  intro sz
  refine Met.ofW (cc := cX0_refuseUnlessOne) (maxL := 3) (ret := none) (by decide) rfl ?_
  intro p e s m args below meth c s₁ B hml hv
  obtain ⟨rfl, hsz, hP, hK, hD0, hZ⟩ := hv
  have hx := B.exec
  have hb := B.bytes
  have hr := B.returns
  have hts := atoms_spec (ws := (wsOf yX0_refuseUnlessOne cX0_refuseUnlessOne 3 none)) B.pre
  have hown : s.vm.findClass RX0 = some m.cls := findClass_of_methodNamed B.named
  have hlocks := B.notSynchronized
  subst hsz
  have hD := hD0.self (sz := s.heap.size)
  generalize hAe : va_A (cW cB cI cJ cZ cS cO b cs) s.heap.size = A at hD hZ ⊢
  have hA : ∀ q : Nat, s.heap.size ≤ q → A q := fun q h => by rw [← hAe]; exact Or.inr h
  have hS : va_S A s.heap s.heap [] := va_S.rf
  have hl := lv_entry ([.ref (b + x0), .int x1, .int x2]) (n := 3) (Nat.le_of_ble_eq_true rfl)
  rw [lg_entry_eq]
  generalize (lg_sl ([.ref (b + x0), .int x1, .int x2]) ++ List.replicate (3 - (lg_sl ([.ref (b + x0), .int x1, .int x2])).length) Slot.unset).toArray = ls at hl ⊢
  have hl : lv_has ls 3 [(0, .ref (b + x0)), (1, .int x1), (2, .int x2)] := hl
  have B_30 : ∀ (cs1 : CS) , c_X0_refuseUnlessOne_b30 F cs1 = some cs9 → ∀ (H : Heap) (locs : List Loc) (ls : Array Slot), va_P (dC, dI) vwCl (cW cB cI cJ cZ cS cO b cs1) H → va_D A (cW cB cI cJ cZ cS cO b cs1) → va_S A s.heap H locs → lv_has ls 3 [] → W p l e (headSpec (wsOf yX0_refuseUnlessOne cX0_refuseUnlessOne 3 none) ({ frames := 1, cells := 0, slots := 0, locals := 60 * (1) } : Room)).room s m ([.ref (b + x0), .int x1, .int x2] : List Value).toArray below meth c H locs 0 0 (MQ below (va_Qv (fun (_ : Unit) => True) (fun _ t_ => va_P (dC, dI) vwCl (cW cB cI cJ cZ cS cO b cs9) t_.heap ∧ va_D A (cW cB cI cJ cZ cS cO b cs9)) A) ([.ref (b + x0), .int x1, .int x2] : List Value).toArray s 0 0 A) (F0 m 30 ls []) := by
    intro cs1  h H locs ls hP hD hS hl
    unfold c_X0_refuseUnlessOne_b30 at h
    have e1 := Option.some.inj h
    rw [e1] at hP hD
    exact W.vret hx hb hr (fun t_ ht hW => ⟨⟨(), rfl, trivial, by rw [ht]; exact hP, hD⟩, hS.F ht⟩) hS.2.2 dX0_refuseUnlessOne_30
  have B_18 : ∀ (cs1 : CS) (u0 : Nat) (u2 : Int32) (y0 : Int32) (y1 : Option Nat), c_X0_refuseUnlessOne_b18 F cs1 u0 u2 y0 y1 = some cs9 → ∀ (H : Heap) (locs : List Loc) (ls : Array Slot), va_P (dC, dI) vwCl (cW cB cI cJ cZ cS cO b cs1) H → va_D A (cW cB cI cJ cZ cS cO b cs1) → va_S A s.heap H locs → lv_has ls 3 [(0, .ref (b + u0)), (2, .int u2)] → W p l e (headSpec (wsOf yX0_refuseUnlessOne cX0_refuseUnlessOne 3 none) ({ frames := 1, cells := 0, slots := 0, locals := 60 * (1) } : Room)).room s m ([.ref (b + x0), .int x1, .int x2] : List Value).toArray below meth c H locs 0 0 (MQ below (va_Qv (fun (_ : Unit) => True) (fun _ t_ => va_P (dC, dI) vwCl (cW cB cI cJ cZ cS cO b cs9) t_.heap ∧ va_D A (cW cB cI cJ cZ cS cO b cs9)) A) ([.ref (b + x0), .int x1, .int x2] : List Value).toArray s 0 0 A) (F0 m 18 ls [.int y0, rv b y1]) := by
    intro cs1 u0 u2 y0 y1 h H locs ls hP hD hS hl
    unfold c_X0_refuseUnlessOne_b18 at h
    refine lv_aload_n hx hb dX0_refuseUnlessOne_18 rfl (lv_at hl 0 rfl) ?_
    replace h := ob h; obtain ⟨v_1, hv_1, h⟩ := h
    refine fg_X0_25 hx hb hts hown hK hP hv_1 dX0_refuseUnlessOne_19 ?_
    replace h := ob h; obtain ⟨i_2, hi_2, h⟩ := h
    subst hi_2
    replace h := ob h; obtain ⟨v_3, hv_3, h⟩ := h
    refine fg_X0_246 hx hb hts hown hK hP hv_3 dX0_refuseUnlessOne_22 ?_
    refine lv_iload_n hx hb dX0_refuseUnlessOne_25 rfl (lv_at hl 1 rfl) ?_
    replace h := ob h; obtain ⟨v_4, hv_4, h⟩ := h
    refine ald0 hx hb hK hP rfl hv_4 dX0_refuseUnlessOne_26 ?_
    replace h := ob h; obtain ⟨i_6, hi_6, h⟩ := h
    subst hi_6
    replace h := ob h; obtain ⟨w_7, hw_7, h⟩ := h
    replace h := ob h; obtain ⟨cs_5, hv_5, h⟩ := h
    refine ccV (As := [.int y0, .int v_4]) hx hb hml hts hown hK hP hD hS hA hZ (X := 10) (by decide) rfl (ckE_some hw_7) (sc_X9_refuse l dC dI cB cI cJ cZ cS cO b K V fz F cs1 i_6 y0 v_4 cs_5 hv_5) (cw_X0_X9_refuse hts (fr := 0) (Nat.le_of_ble_eq_true rfl) (Nat.le_of_ble_eq_true rfl)) rfl hl.1 (Nat.le_of_ble_eq_true rfl) ⟨Nat.zero_le _, Nat.zero_le _⟩ dX0_refuseUnlessOne_27 (fun H locs hP hD hS => ?_)
    exact B_30 cs_5 h _ _ _ hP hD hS (lv_sub hl [] rfl)
  have h := hf
  unfold c_X0_refuseUnlessOne at h
  refine lv_iload_n hx hb dX0_refuseUnlessOne_0 rfl (lv_at hl 1 rfl) ?_
  refine lv_iconst (v := 1) hx hb dX0_refuseUnlessOne_1 (by decide) ?_
  refine lv_icmp_eq (tgt := 30) hx hb dX0_refuseUnlessOne_2 (by decide) (fun c_8 => ?_) (fun c_8 => ?_)
  · skip
    replace h := (if_pos c_8).symm.trans h
    exact B_30 cs h _ _ _ hP hD hS (lv_sub hl [] rfl)
  · skip
    replace h := (if_neg c_8).symm.trans h
    refine lv_aload_n hx hb dX0_refuseUnlessOne_5 rfl (lv_at hl 0 rfl) ?_
    replace h := ob h; obtain ⟨v_9, hv_9, h⟩ := h
    refine fg_X0_9 hx hb hts hown hK hP hv_9 dX0_refuseUnlessOne_6 ?_
    refine lv_iload_n hx hb dX0_refuseUnlessOne_9 rfl (lv_at hl 1 rfl) ?_
    refine lv_if_ne (tgt := 17) hx hb dX0_refuseUnlessOne_10 (by decide) (fun c_10 => ?_) (fun c_10 => ?_)
    · skip
      replace h := (if_neg c_10).symm.trans h
      refine lv_iconst (v := 3) hx hb dX0_refuseUnlessOne_17 (by decide) ?_
      exact B_18 cs x0 x2 3 v_9 h _ _ _ hP hD hS (lv_sub hl [0, 2] rfl)
    · skip
      replace h := (if_pos c_10).symm.trans h
      refine lv_iconst (v := 2) hx hb dX0_refuseUnlessOne_13 (by decide) ?_
      refine lv_goto (tgt := 18) hx hb dX0_refuseUnlessOne_14 (by decide) ?_
      exact B_18 cs x0 x2 2 v_9 h _ _ _ hP hD hS (lv_sub hl [0, 2] rfl)
theorem dX0_findInSources_0 : decode cX0_findInSources 0 = .ok (.iconst 0, 1) := by decide +kernel
theorem dX0_findInSources_1 : decode cX0_findInSources 1 = .ok (.istore_n 2, 1) := by decide +kernel
theorem dX0_findInSources_2 : decode cX0_findInSources 2 = .ok (.iconst 0, 1) := by decide +kernel
theorem dX0_findInSources_3 : decode cX0_findInSources 3 = .ok (.istore_n 3, 1) := by decide +kernel
theorem dX0_findInSources_4 : decode cX0_findInSources 4 = .ok (.aload_n 0, 1) := by decide +kernel
theorem dX0_findInSources_5 : decode cX0_findInSources 5 = .ok (.getfield 121, 3) := by decide +kernel
theorem dX0_findInSources_8 : decode cX0_findInSources 8 = .ok (.ifnull 173, 3) := by decide +kernel
theorem dX0_findInSources_11 : decode cX0_findInSources 11 = .ok (.iload_n 3, 1) := by decide +kernel
theorem dX0_findInSources_12 : decode cX0_findInSources 12 = .ok (.aload_n 0, 1) := by decide +kernel
theorem dX0_findInSources_13 : decode cX0_findInSources 13 = .ok (.getfield 125, 3) := by decide +kernel
theorem dX0_findInSources_16 : decode cX0_findInSources 16 = .ok (.if_icmp .ge 165, 3) := by decide +kernel
theorem dX0_findInSources_19 : decode cX0_findInSources 19 = .ok (.iload_n 3, 1) := by decide +kernel
theorem dX0_findInSources_20 : decode cX0_findInSources 20 = .ok (.aload_n 0, 1) := by decide +kernel
theorem dX0_findInSources_21 : decode cX0_findInSources 21 = .ok (.getfield 121, 3) := by decide +kernel
theorem dX0_findInSources_24 : decode cX0_findInSources 24 = .ok (.getfield 113, 3) := by decide +kernel
theorem dX0_findInSources_27 : decode cX0_findInSources 27 = .ok (.arraylength, 1) := by decide +kernel
theorem dX0_findInSources_28 : decode cX0_findInSources 28 = .ok (.if_icmp .ge 153, 3) := by decide +kernel
theorem dX0_findInSources_31 : decode cX0_findInSources 31 = .ok (.aload_n 0, 1) := by decide +kernel
theorem dX0_findInSources_32 : decode cX0_findInSources 32 = .ok (.getfield 121, 3) := by decide +kernel
theorem dX0_findInSources_35 : decode cX0_findInSources 35 = .ok (.getfield 113, 3) := by decide +kernel
theorem dX0_findInSources_38 : decode cX0_findInSources 38 = .ok (.iload_n 3, 1) := by decide +kernel
theorem dX0_findInSources_39 : decode cX0_findInSources 39 = .ok (.aaload, 1) := by decide +kernel
theorem dX0_findInSources_40 : decode cX0_findInSources 40 = .ok (.astore 4, 2) := by decide +kernel
theorem dX0_findInSources_42 : decode cX0_findInSources 42 = .ok (.aload 4, 2) := by decide +kernel
theorem dX0_findInSources_44 : decode cX0_findInSources 44 = .ok (.ifnull 41, 3) := by decide +kernel
theorem dX0_findInSources_47 : decode cX0_findInSources 47 = .ok (.aload_n 0, 1) := by decide +kernel
theorem dX0_findInSources_48 : decode cX0_findInSources 48 = .ok (.getfield 25, 3) := by decide +kernel
theorem dX0_findInSources_51 : decode cX0_findInSources 51 = .ok (.getfield 291, 3) := by decide +kernel
theorem dX0_findInSources_54 : decode cX0_findInSources 54 = .ok (.iload_n 1, 1) := by decide +kernel
theorem dX0_findInSources_55 : decode cX0_findInSources 55 = .ok (.laload, 1) := by decide +kernel
theorem dX0_findInSources_56 : decode cX0_findInSources 56 = .ok (.ldc2_w 294, 3) := by decide +kernel
theorem dX0_findInSources_59 : decode cX0_findInSources 59 = .ok (.lcmp, 1) := by decide +kernel
theorem dX0_findInSources_60 : decode cX0_findInSources 60 = .ok (.ifCond .eq 21, 3) := by decide +kernel
theorem dX0_findInSources_63 : decode cX0_findInSources 63 = .ok (.aload_n 0, 1) := by decide +kernel
theorem dX0_findInSources_64 : decode cX0_findInSources 64 = .ok (.getfield 25, 3) := by decide +kernel
theorem dX0_findInSources_67 : decode cX0_findInSources 67 = .ok (.getfield 291, 3) := by decide +kernel
theorem dX0_findInSources_70 : decode cX0_findInSources 70 = .ok (.iload_n 1, 1) := by decide +kernel
theorem dX0_findInSources_71 : decode cX0_findInSources 71 = .ok (.laload, 1) := by decide +kernel
theorem dX0_findInSources_72 : decode cX0_findInSources 72 = .ok (.aload 4, 2) := by decide +kernel
theorem dX0_findInSources_74 : decode cX0_findInSources 74 = .ok (.getfield 171, 3) := by decide +kernel
theorem dX0_findInSources_77 : decode cX0_findInSources 77 = .ok (.lcmp, 1) := by decide +kernel
theorem dX0_findInSources_78 : decode cX0_findInSources 78 = .ok (.ifCond .ne 7, 3) := by decide +kernel
theorem dX0_findInSources_81 : decode cX0_findInSources 81 = .ok (.iconst 1, 1) := by decide +kernel
theorem dX0_findInSources_82 : decode cX0_findInSources 82 = .ok (.goto 4, 3) := by decide +kernel
theorem dX0_findInSources_85 : decode cX0_findInSources 85 = .ok (.iconst 0, 1) := by decide +kernel
theorem dX0_findInSources_86 : decode cX0_findInSources 86 = .ok (.istore 5, 2) := by decide +kernel
theorem dX0_findInSources_88 : decode cX0_findInSources 88 = .ok (.iload 5, 2) := by decide +kernel
theorem dX0_findInSources_90 : decode cX0_findInSources 90 = .ok (.ifCond .eq 24, 3) := by decide +kernel
theorem dX0_findInSources_93 : decode cX0_findInSources 93 = .ok (.aload 4, 2) := by decide +kernel
theorem dX0_findInSources_95 : decode cX0_findInSources 95 = .ok (.getfield 183, 3) := by decide +kernel
theorem dX0_findInSources_98 : decode cX0_findInSources 98 = .ok (.aload_n 0, 1) := by decide +kernel
theorem dX0_findInSources_99 : decode cX0_findInSources 99 = .ok (.getfield 25, 3) := by decide +kernel
theorem dX0_findInSources_102 : decode cX0_findInSources 102 = .ok (.getfield 296, 3) := by decide +kernel
theorem dX0_findInSources_105 : decode cX0_findInSources 105 = .ok (.iload_n 1, 1) := by decide +kernel
theorem dX0_findInSources_106 : decode cX0_findInSources 106 = .ok (.laload, 1) := by decide +kernel
theorem dX0_findInSources_107 : decode cX0_findInSources 107 = .ok (.iconst 0, 1) := by decide +kernel
theorem dX0_findInSources_108 : decode cX0_findInSources 108 = .ok (.invokevirtual 261, 3) := by decide +kernel
theorem dX0_findInSources_111 : decode cX0_findInSources 111 = .ok (.goto 4, 3) := by decide +kernel
theorem dX0_findInSources_114 : decode cX0_findInSources 114 = .ok (.iconst (-1), 1) := by decide +kernel
theorem dX0_findInSources_115 : decode cX0_findInSources 115 = .ok (.istore 6, 2) := by decide +kernel
theorem dX0_findInSources_117 : decode cX0_findInSources 117 = .ok (.iload 5, 2) := by decide +kernel
theorem dX0_findInSources_119 : decode cX0_findInSources 119 = .ok (.ifCond .eq 56, 3) := by decide +kernel
theorem dX0_findInSources_122 : decode cX0_findInSources 122 = .ok (.aload 4, 2) := by decide +kernel
theorem dX0_findInSources_124 : decode cX0_findInSources 124 = .ok (.getfield 183, 3) := by decide +kernel
theorem dX0_findInSources_127 : decode cX0_findInSources 127 = .ok (.iload 6, 2) := by decide +kernel
theorem dX0_findInSources_129 : decode cX0_findInSources 129 = .ok (.invokevirtual 221, 3) := by decide +kernel
theorem dX0_findInSources_132 : decode cX0_findInSources 132 = .ok (.ifCond .eq 43, 3) := by decide +kernel
theorem dX0_findInSources_135 : decode cX0_findInSources 135 = .ok (.iinc 2 1, 3) := by decide +kernel
theorem dX0_findInSources_138 : decode cX0_findInSources 138 = .ok (.aload_n 0, 1) := by decide +kernel
theorem dX0_findInSources_139 : decode cX0_findInSources 139 = .ok (.getfield 25, 3) := by decide +kernel
theorem dX0_findInSources_142 : decode cX0_findInSources 142 = .ok (.getfield 268, 3) := by decide +kernel
theorem dX0_findInSources_145 : decode cX0_findInSources 145 = .ok (.iload_n 1, 1) := by decide +kernel
theorem dX0_findInSources_146 : decode cX0_findInSources 146 = .ok (.aload 4, 2) := by decide +kernel
theorem dX0_findInSources_148 : decode cX0_findInSources 148 = .ok (.getfield 180, 3) := by decide +kernel
theorem dX0_findInSources_151 : decode cX0_findInSources 151 = .ok (.iload 6, 2) := by decide +kernel
theorem dX0_findInSources_153 : decode cX0_findInSources 153 = .ok (.iadd, 1) := by decide +kernel
theorem dX0_findInSources_154 : decode cX0_findInSources 154 = .ok (.iastore, 1) := by decide +kernel
theorem dX0_findInSources_155 : decode cX0_findInSources 155 = .ok (.aload_n 0, 1) := by decide +kernel
theorem dX0_findInSources_156 : decode cX0_findInSources 156 = .ok (.getfield 25, 3) := by decide +kernel
theorem dX0_findInSources_159 : decode cX0_findInSources 159 = .ok (.getfield 271, 3) := by decide +kernel
theorem dX0_findInSources_162 : decode cX0_findInSources 162 = .ok (.iload_n 1, 1) := by decide +kernel
theorem dX0_findInSources_163 : decode cX0_findInSources 163 = .ok (.aload 4, 2) := by decide +kernel
theorem dX0_findInSources_165 : decode cX0_findInSources 165 = .ok (.getfield 183, 3) := by decide +kernel
theorem dX0_findInSources_168 : decode cX0_findInSources 168 = .ok (.getfield 227, 3) := by decide +kernel
theorem dX0_findInSources_171 : decode cX0_findInSources 171 = .ok (.iload 6, 2) := by decide +kernel
theorem dX0_findInSources_173 : decode cX0_findInSources 173 = .ok (.iaload, 1) := by decide +kernel
theorem dX0_findInSources_174 : decode cX0_findInSources 174 = .ok (.iastore, 1) := by decide +kernel
theorem dX0_findInSources_175 : decode cX0_findInSources 175 = .ok (.iinc 3 1, 3) := by decide +kernel
theorem dX0_findInSources_178 : decode cX0_findInSources 178 = .ok (.goto (-174), 3) := by decide +kernel
theorem dX0_findInSources_181 : decode cX0_findInSources 181 = .ok (.aload_n 0, 1) := by decide +kernel
theorem dX0_findInSources_182 : decode cX0_findInSources 182 = .ok (.iload_n 2, 1) := by decide +kernel
theorem dX0_findInSources_183 : decode cX0_findInSources 183 = .ok (.iload_n 1, 1) := by decide +kernel
theorem dX0_findInSources_184 : decode cX0_findInSources 184 = .ok (.invokevirtual 299, 3) := by decide +kernel
theorem dX0_findInSources_187 : decode cX0_findInSources 187 = .ok (.return_, 1) := by decide +kernel
def c_X0_findInSources_b181 (F : Nat) (cs1 : CS) (u0 : Nat) (u1 : Int32) (u2 : Int32) : Option CS := Option.bind (ckE cs1 1 u0) fun _ => Option.bind (c_X0_refuseUnlessOne F cs1 u0 u2 u1) fun cs_1 => some cs_1
def c_X0_findInSources_b175 (F : Nat) (rc4 : CS → Nat → Int32 → Int32 → Int32 → Option CS) (cs1 : CS) (u0 : Nat) (u1 : Int32) (u2 : Int32) (u3 : Int32) : Option CS := rc4 cs1 u0 u1 u2 (u3 + 1)
def c_X0_findInSources_b115 (F : Nat) (rc4 : CS → Nat → Int32 → Int32 → Int32 → Option CS) (cs1 : CS) (u0 : Nat) (u1 : Int32) (u2 : Int32) (u3 : Int32) (u4 : Option Nat) (u5 : Int32) (y0 : Int32) : Option CS := if u5 = 0 then (c_X0_findInSources_b175 F rc4 cs1 u0 u1 u2 u3) else (Option.bind (u4) fun i_4 => Option.bind (gR cs1 7 235 i_4) fun v_5 => Option.bind (v_5) fun i_7 => Option.bind (ckE cs1 3 i_7) fun _ => Option.bind (c_X2_has F cs1 i_7 y0) fun v_6 => if v_6 = 0 then (c_X0_findInSources_b175 F rc4 cs1 u0 u1 u2 u3) else (Option.bind (gR cs1 1 34 u0) fun v_10 => Option.bind (v_10) fun i_11 => Option.bind (gA cs1 2 72 i_11) fun v_12 => Option.bind (gI cs1 7 234 i_4) fun v_13 => Option.bind (wA cs1 72 i_11 v_12 u1 (v_13 + y0)) fun cs_14 => Option.bind (gR cs_14 1 34 u0) fun v_15 => Option.bind (v_15) fun i_16 => Option.bind (gA cs_14 2 73 i_16) fun v_17 => Option.bind (gR cs_14 7 235 i_4) fun v_18 => Option.bind (v_18) fun i_19 => Option.bind (gA cs_14 3 100 i_19) fun v_20 => Option.bind (rA cs_14 100 i_19 v_20 y0) fun v_21 => Option.bind (wA cs_14 73 i_16 v_17 u1 v_21) fun cs_22 => c_X0_findInSources_b175 F rc4 cs_22 u0 u1 (u2 + 1) u3))
def c_X0_findInSources_b86 (F : Nat) (rc4 : CS → Nat → Int32 → Int32 → Int32 → Option CS) (cs1 : CS) (u0 : Nat) (u1 : Int32) (u2 : Int32) (u3 : Int32) (u4 : Option Nat) (y0 : Int32) : Option CS := if y0 = 0 then (c_X0_findInSources_b115 F rc4 cs1 u0 u1 u2 u3 u4 y0 (-1)) else (Option.bind (u4) fun i_24 => Option.bind (gR cs1 7 235 i_24) fun v_25 => Option.bind (gR cs1 1 34 u0) fun v_26 => Option.bind (v_26) fun i_27 => Option.bind (gA cs1 2 69 i_27) fun v_28 => Option.bind (rB cs1 69 i_27 v_28 u1) fun v_29 => Option.bind (v_25) fun i_31 => Option.bind (ckE cs1 3 i_31) fun _ => Option.bind (c_X2_find F cs1 i_31 v_29 0) fun v_30 => c_X0_findInSources_b115 F rc4 cs1 u0 u1 u2 u3 (some i_24) y0 v_30)
def c_X0_findInSources_b81 (F : Nat) (rc4 : CS → Nat → Int32 → Int32 → Int32 → Option CS) (cs1 : CS) (u0 : Nat) (u1 : Int32) (u2 : Int32) (u3 : Int32) (u4 : Nat) : Option CS := c_X0_findInSources_b86 F rc4 cs1 u0 u1 u2 u3 (some u4) 1
def c_X0_findInSources_b85 (F : Nat) (rc4 : CS → Nat → Int32 → Int32 → Int32 → Option CS) (cs1 : CS) (u0 : Nat) (u1 : Int32) (u2 : Int32) (u3 : Int32) (u4 : Option Nat) : Option CS := c_X0_findInSources_b86 F rc4 cs1 u0 u1 u2 u3 u4 0
def c_X0_findInSources_L4 (F : Nat) : Nat → CS → Nat → Int32 → Int32 → Int32 → Option CS
  | 0, _, _, _, _, _ => none
  | lf_4 + 1, cs1, u0, u1, u2, u3 => Option.bind (gR cs1 1 35 u0) fun v_33 => oc v_33 (c_X0_findInSources_b181 F cs1 u0 u1 u2) (fun i_34 => Option.bind (gI cs1 1 36 u0) fun v_35 => if v_35 ≤ u3 then (c_X0_findInSources_b181 F cs1 u0 u1 u2) else (Option.bind (gR cs1 1 35 u0) fun v_37 => Option.bind (v_37) fun i_38 => Option.bind (gA cs1 6 195 i_38) fun v_39 => Option.bind (lnA cs1 195 i_38 v_39) fun v_40 => if v_40 ≤ u3 then (c_X0_findInSources_b181 F cs1 u0 u1 u2) else (Option.bind (gR cs1 1 35 u0) fun v_42 => Option.bind (v_42) fun i_43 => Option.bind (gA cs1 6 195 i_43) fun v_44 => Option.bind (rQ cs1 195 i_43 v_44 u3) fun v_45 => oc v_45 (c_X0_findInSources_b85 F (c_X0_findInSources_L4 F lf_4) cs1 u0 u1 u2 u3 none) (fun i_46 => Option.bind (gR cs1 1 34 u0) fun v_47 => Option.bind (v_47) fun i_48 => Option.bind (gA cs1 2 70 i_48) fun v_49 => Option.bind (rB cs1 70 i_48 v_49 u1) fun v_50 => if v_50 = (-1) then (c_X0_findInSources_b81 F (c_X0_findInSources_L4 F lf_4) cs1 u0 u1 u2 u3 i_46) else (Option.bind (gR cs1 1 34 u0) fun v_52 => Option.bind (v_52) fun i_53 => Option.bind (gA cs1 2 70 i_53) fun v_54 => Option.bind (rB cs1 70 i_53 v_54 u1) fun v_55 => Option.bind (gJ cs1 7 228 i_46) fun v_56 => if v_55 = v_56 then (c_X0_findInSources_b81 F (c_X0_findInSources_L4 F lf_4) cs1 u0 u1 u2 u3 i_46) else (c_X0_findInSources_b85 F (c_X0_findInSources_L4 F lf_4) cs1 u0 u1 u2 u3 (some i_46)))))))
def c_X0_findInSources (F : Nat) (cs : CS) (x0 : Nat) (x1 : Int32) : Option CS := c_X0_findInSources_L4 F F cs x0 x1 0 0
theorem cw_X0_X0_findInSources {R : Room} {s : State} {args : Array Value} {y0 : MethodName} {c0 : ByteArray} {n0 : Nat} {r0 : Option FieldType} (hts : ∀ w ∈ wsOf y0 c0 n0 r0, w.before args s = true) {fr : Nat} (h1 : fr + 1 ≤ R.frames) (h2 : 8 + (7 + 11) + 60 * fr ≤ R.locals) : CallW R s args RX0 RX0 284 yX0_findInSources cX0_findInSources 7 none (wsOf yX0_findInSources cX0_findInSources 7 none) ({ frames := fr, cells := 0, slots := 0, locals := 60 * fr } : Room) 0 0 1 := cwV 1 hts (gd_all (in_V kw_1262 kw_1264 kw_57 kw_204 kc_X0_findInSources)) rfl rfl rfl (by decide +kernel) ⟨h1, h2⟩
set_option maxHeartbeats 4000000 in
set_option maxRecDepth 100000 in
theorem sc_X0_findInSources (l : Launch) (dC : Nat → ClassId) (dI : Nat → Nat → Nat) (cB cI cJ cZ cS cO : ClassId) (b : Nat) (K V : Nat → Nat) (fz : Value) (F : Nat) (cs : CS) (x0 : Nat) (x1 : Int32) (cs9 : CS) (hf : c_X0_findInSources F cs x0 x1 = some cs9) : ocV l dC dI cB cI cJ cZ cS cO b K V fz yX0_findInSources (wsOf yX0_findInSources cX0_findInSources 7 none) (2) [.ref (b + x0), .int x1] cs cs9 := by
  intro sz
  refine Met.ofW (cc := cX0_findInSources) (maxL := 7) (ret := none) (by decide) rfl ?_
  intro p e s m args below meth c s₁ B hml hv
  obtain ⟨rfl, hsz, hP, hK, hD0, hZ⟩ := hv
  have hx := B.exec
  have hb := B.bytes
  have hr := B.returns
  have hts := atoms_spec (ws := (wsOf yX0_findInSources cX0_findInSources 7 none)) B.pre
  have hown : s.vm.findClass RX0 = some m.cls := findClass_of_methodNamed B.named
  have hlocks := B.notSynchronized
  subst hsz
  have hD := hD0.self (sz := s.heap.size)
  generalize hAe : va_A (cW cB cI cJ cZ cS cO b cs) s.heap.size = A at hD hZ ⊢
  have hA : ∀ q : Nat, s.heap.size ≤ q → A q := fun q h => by rw [← hAe]; exact Or.inr h
  have hS : va_S A s.heap s.heap [] := va_S.rf
  have hl := lv_entry ([.ref (b + x0), .int x1]) (n := 7) (Nat.le_of_ble_eq_true rfl)
  rw [lg_entry_eq]
  generalize (lg_sl ([.ref (b + x0), .int x1]) ++ List.replicate (7 - (lg_sl ([.ref (b + x0), .int x1])).length) Slot.unset).toArray = ls at hl ⊢
  have hl : lv_has ls 7 [(0, .ref (b + x0)), (1, .int x1)] := hl
  have B_181 : ∀ (cs1 : CS) (u0 : Nat) (u1 : Int32) (u2 : Int32), c_X0_findInSources_b181 F cs1 u0 u1 u2 = some cs9 → ∀ (H : Heap) (locs : List Loc) (ls : Array Slot), va_P (dC, dI) vwCl (cW cB cI cJ cZ cS cO b cs1) H → va_D A (cW cB cI cJ cZ cS cO b cs1) → va_S A s.heap H locs → lv_has ls 7 [(0, .ref (b + u0)), (1, .int u1), (2, .int u2)] → W p l e (headSpec (wsOf yX0_findInSources cX0_findInSources 7 none) ({ frames := 2, cells := 0, slots := 0, locals := 60 * (2) } : Room)).room s m ([.ref (b + x0), .int x1] : List Value).toArray below meth c H locs 0 0 (MQ below (va_Qv (fun (_ : Unit) => True) (fun _ t_ => va_P (dC, dI) vwCl (cW cB cI cJ cZ cS cO b cs9) t_.heap ∧ va_D A (cW cB cI cJ cZ cS cO b cs9)) A) ([.ref (b + x0), .int x1] : List Value).toArray s 0 0 A) (F0 m 181 ls []) := by
    intro cs1 u0 u1 u2 h H locs ls hP hD hS hl
    unfold c_X0_findInSources_b181 at h
    refine lv_aload_n hx hb dX0_findInSources_181 rfl (lv_at hl 0 rfl) ?_
    refine lv_iload_n hx hb dX0_findInSources_182 rfl (lv_at hl 2 rfl) ?_
    refine lv_iload_n hx hb dX0_findInSources_183 rfl (lv_at hl 1 rfl) ?_
    replace h := ob h; obtain ⟨w_2, hw_2, h⟩ := h
    replace h := ob h; obtain ⟨cs_1, hv_1, h⟩ := h
    refine ccV (As := [.int u2, .int u1]) hx hb hml hts hown hK hP hD hS hA hZ (X := 1) (by decide) rfl (ckE_some hw_2) (sc_X0_refuseUnlessOne l dC dI cB cI cJ cZ cS cO b K V fz F cs1 u0 u2 u1 cs_1 hv_1) (cw_X0_X0_refuseUnlessOne hts (fr := 1) (Nat.le_of_ble_eq_true rfl) (Nat.le_of_ble_eq_true rfl)) rfl hl.1 (Nat.le_of_ble_eq_true rfl) ⟨Nat.zero_le _, Nat.zero_le _⟩ dX0_findInSources_184 (fun H locs hP hD hS => ?_)
    have e1 := Option.some.inj h
    rw [e1] at hP hD
    exact W.vret hx hb hr (fun t_ ht hW => ⟨⟨(), rfl, trivial, by rw [ht]; exact hP, hD⟩, hS.F ht⟩) hS.2.2 dX0_findInSources_187
  have L_4 : ∀ (lf_4 : Nat), ∀ (cs1 : CS) (u0 : Nat) (u1 : Int32) (u2 : Int32) (u3 : Int32), c_X0_findInSources_L4 F lf_4 cs1 u0 u1 u2 u3 = some cs9 → ∀ (H : Heap) (locs : List Loc) (ls : Array Slot), va_P (dC, dI) vwCl (cW cB cI cJ cZ cS cO b cs1) H → va_D A (cW cB cI cJ cZ cS cO b cs1) → va_S A s.heap H locs → lv_has ls 7 [(0, .ref (b + u0)), (1, .int u1), (2, .int u2), (3, .int u3)] → W p l e (headSpec (wsOf yX0_findInSources cX0_findInSources 7 none) ({ frames := 2, cells := 0, slots := 0, locals := 60 * (2) } : Room)).room s m ([.ref (b + x0), .int x1] : List Value).toArray below meth c H locs 0 0 (MQ below (va_Qv (fun (_ : Unit) => True) (fun _ t_ => va_P (dC, dI) vwCl (cW cB cI cJ cZ cS cO b cs9) t_.heap ∧ va_D A (cW cB cI cJ cZ cS cO b cs9)) A) ([.ref (b + x0), .int x1] : List Value).toArray s 0 0 A) (F0 m 4 ls []) := by
    intro lf_4
    induction lf_4 with
    | zero => intro cs1 u0 u1 u2 u3 h; cases (show (none : Option CS) = _ from h)
    | succ lf_4 ih_4 =>
      have B_175 : ∀ (cs1 : CS) (u0 : Nat) (u1 : Int32) (u2 : Int32) (u3 : Int32), c_X0_findInSources_b175 F (c_X0_findInSources_L4 F lf_4) cs1 u0 u1 u2 u3 = some cs9 → ∀ (H : Heap) (locs : List Loc) (ls : Array Slot), va_P (dC, dI) vwCl (cW cB cI cJ cZ cS cO b cs1) H → va_D A (cW cB cI cJ cZ cS cO b cs1) → va_S A s.heap H locs → lv_has ls 7 [(0, .ref (b + u0)), (1, .int u1), (2, .int u2), (3, .int u3)] → W p l e (headSpec (wsOf yX0_findInSources cX0_findInSources 7 none) ({ frames := 2, cells := 0, slots := 0, locals := 60 * (2) } : Room)).room s m ([.ref (b + x0), .int x1] : List Value).toArray below meth c H locs 0 0 (MQ below (va_Qv (fun (_ : Unit) => True) (fun _ t_ => va_P (dC, dI) vwCl (cW cB cI cJ cZ cS cO b cs9) t_.heap ∧ va_D A (cW cB cI cJ cZ cS cO b cs9)) A) ([.ref (b + x0), .int x1] : List Value).toArray s 0 0 A) (F0 m 175 ls []) := by
        intro cs1 u0 u1 u2 u3 h H locs ls hP hD hS hl
        unfold c_X0_findInSources_b175 at h
        refine lv_iinc (v := u3 + 1) (lv' := [(3, .int (u3 + 1)), (0, .ref (b + u0)), (1, .int u1), (2, .int u2)]) hx hb dX0_findInSources_175 hl (k := 3) rfl rfl (by decide) rfl (fun ls hl => ?_)
        refine lv_goto (tgt := 4) hx hb dX0_findInSources_178 (by decide) ?_
        exact ih_4 cs1 u0 u1 u2 (u3 + 1) h _ _ _ hP hD hS (lv_sub hl [1, 2, 3, 0] rfl)
      have B_115 : ∀ (cs1 : CS) (u0 : Nat) (u1 : Int32) (u2 : Int32) (u3 : Int32) (u4 : Option Nat) (u5 : Int32) (y0 : Int32), c_X0_findInSources_b115 F (c_X0_findInSources_L4 F lf_4) cs1 u0 u1 u2 u3 u4 u5 y0 = some cs9 → ∀ (H : Heap) (locs : List Loc) (ls : Array Slot), va_P (dC, dI) vwCl (cW cB cI cJ cZ cS cO b cs1) H → va_D A (cW cB cI cJ cZ cS cO b cs1) → va_S A s.heap H locs → lv_has ls 7 [(0, .ref (b + u0)), (1, .int u1), (2, .int u2), (3, .int u3), (4, rv b u4), (5, .int u5)] → W p l e (headSpec (wsOf yX0_findInSources cX0_findInSources 7 none) ({ frames := 2, cells := 0, slots := 0, locals := 60 * (2) } : Room)).room s m ([.ref (b + x0), .int x1] : List Value).toArray below meth c H locs 0 0 (MQ below (va_Qv (fun (_ : Unit) => True) (fun _ t_ => va_P (dC, dI) vwCl (cW cB cI cJ cZ cS cO b cs9) t_.heap ∧ va_D A (cW cB cI cJ cZ cS cO b cs9)) A) ([.ref (b + x0), .int x1] : List Value).toArray s 0 0 A) (F0 m 115 ls [.int y0]) := by
        intro cs1 u0 u1 u2 u3 u4 u5 y0 h H locs ls hP hD hS hl
        unfold c_X0_findInSources_b115 at h
        refine lv_istore (lv' := [(6, .int y0), (0, .ref (b + u0)), (1, .int u1), (2, .int u2), (3, .int u3), (4, rv b u4), (5, .int u5)]) hx hb dX0_findInSources_115 hl (by decide) rfl (fun ls hl => ?_)
        refine lv_iload hx hb dX0_findInSources_117 (lv_at hl 6 rfl) ?_
        refine lv_if_eq (tgt := 175) hx hb dX0_findInSources_119 (by decide) (fun c_3 => ?_) (fun c_3 => ?_)
        · skip
          replace h := (if_pos c_3).symm.trans h
          exact B_175 cs1 u0 u1 u2 u3 h _ _ _ hP hD hS (lv_sub hl [1, 2, 3, 4] rfl)
        · skip
          replace h := (if_neg c_3).symm.trans h
          refine lv_aloadO hx hb dX0_findInSources_122 (lv_at hl 5 rfl) ?_
          replace h := ob h; obtain ⟨i_4, hi_4, h⟩ := h
          subst hi_4
          replace h := ob h; obtain ⟨v_5, hv_5, h⟩ := h
          refine fg_X0_183 hx hb hts hown hK hP hv_5 dX0_findInSources_124 ?_
          refine lv_iload hx hb dX0_findInSources_127 (lv_at hl 0 rfl) ?_
          replace h := ob h; obtain ⟨i_7, hi_7, h⟩ := h
          subst hi_7
          replace h := ob h; obtain ⟨w_8, hw_8, h⟩ := h
          replace h := ob h; obtain ⟨v_6, hv_6, h⟩ := h
          refine ccI (As := [.int y0]) hx hb hml hts hown hK hP hD hS hA hZ (X := 3) (by decide) rfl (ckE_some hw_8) (sc_X2_has l dC dI cB cI cJ cZ cS cO b K V fz F cs1 i_7 y0 v_6 hv_6) (cw_X0_X2_has hts (fr := 0) (Nat.le_of_ble_eq_true rfl) (Nat.le_of_ble_eq_true rfl)) rfl hl.1 (Nat.le_of_ble_eq_true rfl) ⟨Nat.zero_le _, Nat.zero_le _⟩ dX0_findInSources_129 (fun H locs hP hD hS => ?_)
          refine lv_if_eq (tgt := 175) hx hb dX0_findInSources_132 (by decide) (fun c_9 => ?_) (fun c_9 => ?_)
          · skip
            replace h := (if_pos c_9).symm.trans h
            exact B_175 cs1 u0 u1 u2 u3 h _ _ _ hP hD hS (lv_sub hl [1, 2, 3, 4] rfl)
          · skip
            replace h := (if_neg c_9).symm.trans h
            refine lv_iinc (v := u2 + 1) (lv' := [(2, .int (u2 + 1)), (6, .int y0), (0, .ref (b + u0)), (1, .int u1), (3, .int u3), (4, .ref (b + i_4)), (5, .int u5)]) hx hb dX0_findInSources_135 hl (k := 3) rfl rfl (by decide) rfl (fun ls hl => ?_)
            refine lv_aload_n hx hb dX0_findInSources_138 rfl (lv_at hl 2 rfl) ?_
            replace h := ob h; obtain ⟨v_10, hv_10, h⟩ := h
            refine fg_X0_25 hx hb hts hown hK hP hv_10 dX0_findInSources_139 ?_
            replace h := ob h; obtain ⟨i_11, hi_11, h⟩ := h
            subst hi_11
            replace h := ob h; obtain ⟨v_12, hv_12, h⟩ := h
            refine fg_X0_268 hx hb hts hown hK hP hv_12 dX0_findInSources_142 ?_
            refine lv_iload_n hx hb dX0_findInSources_145 rfl (lv_at hl 3 rfl) ?_
            refine lv_aload hx hb dX0_findInSources_146 (lv_at hl 5 rfl) ?_
            replace h := ob h; obtain ⟨v_13, hv_13, h⟩ := h
            refine fg_X0_180 hx hb hts hown hK hP hv_13 dX0_findInSources_148 ?_
            refine lv_iload hx hb dX0_findInSources_151 (lv_at hl 1 rfl) ?_
            refine lv_iadd hx hb dX0_findInSources_153 ?_
            replace h := ob h; obtain ⟨cs_14, hv_14, h⟩ := h
            refine ast0 hx hb hK hP hD hS rfl hv_14 dX0_findInSources_154 (fun H locs hP hD hS => ?_)
            refine lv_aload_n hx hb dX0_findInSources_155 rfl (lv_at hl 2 rfl) ?_
            replace h := ob h; obtain ⟨v_15, hv_15, h⟩ := h
            refine fg_X0_25 hx hb hts hown hK hP hv_15 dX0_findInSources_156 ?_
            replace h := ob h; obtain ⟨i_16, hi_16, h⟩ := h
            subst hi_16
            replace h := ob h; obtain ⟨v_17, hv_17, h⟩ := h
            refine fg_X0_271 hx hb hts hown hK hP hv_17 dX0_findInSources_159 ?_
            refine lv_iload_n hx hb dX0_findInSources_162 rfl (lv_at hl 3 rfl) ?_
            refine lv_aload hx hb dX0_findInSources_163 (lv_at hl 5 rfl) ?_
            replace h := ob h; obtain ⟨v_18, hv_18, h⟩ := h
            refine fg_X0_183 hx hb hts hown hK hP hv_18 dX0_findInSources_165 ?_
            replace h := ob h; obtain ⟨i_19, hi_19, h⟩ := h
            subst hi_19
            replace h := ob h; obtain ⟨v_20, hv_20, h⟩ := h
            refine fg_X0_227 hx hb hts hown hK hP hv_20 dX0_findInSources_168 ?_
            refine lv_iload hx hb dX0_findInSources_171 (lv_at hl 1 rfl) ?_
            replace h := ob h; obtain ⟨v_21, hv_21, h⟩ := h
            refine ald0 hx hb hK hP rfl hv_21 dX0_findInSources_173 ?_
            replace h := ob h; obtain ⟨cs_22, hv_22, h⟩ := h
            refine ast0 hx hb hK hP hD hS rfl hv_22 dX0_findInSources_174 (fun H locs hP hD hS => ?_)
            exact B_175 cs_22 u0 u1 (u2 + 1) u3 h _ _ _ hP hD hS (lv_sub hl [2, 3, 0, 4] rfl)
      have B_86 : ∀ (cs1 : CS) (u0 : Nat) (u1 : Int32) (u2 : Int32) (u3 : Int32) (u4 : Option Nat) (y0 : Int32), c_X0_findInSources_b86 F (c_X0_findInSources_L4 F lf_4) cs1 u0 u1 u2 u3 u4 y0 = some cs9 → ∀ (H : Heap) (locs : List Loc) (ls : Array Slot), va_P (dC, dI) vwCl (cW cB cI cJ cZ cS cO b cs1) H → va_D A (cW cB cI cJ cZ cS cO b cs1) → va_S A s.heap H locs → lv_has ls 7 [(0, .ref (b + u0)), (1, .int u1), (2, .int u2), (3, .int u3), (4, rv b u4)] → W p l e (headSpec (wsOf yX0_findInSources cX0_findInSources 7 none) ({ frames := 2, cells := 0, slots := 0, locals := 60 * (2) } : Room)).room s m ([.ref (b + x0), .int x1] : List Value).toArray below meth c H locs 0 0 (MQ below (va_Qv (fun (_ : Unit) => True) (fun _ t_ => va_P (dC, dI) vwCl (cW cB cI cJ cZ cS cO b cs9) t_.heap ∧ va_D A (cW cB cI cJ cZ cS cO b cs9)) A) ([.ref (b + x0), .int x1] : List Value).toArray s 0 0 A) (F0 m 86 ls [.int y0]) := by
        intro cs1 u0 u1 u2 u3 u4 y0 h H locs ls hP hD hS hl
        unfold c_X0_findInSources_b86 at h
        refine lv_istore (lv' := [(5, .int y0), (0, .ref (b + u0)), (1, .int u1), (2, .int u2), (3, .int u3), (4, rv b u4)]) hx hb dX0_findInSources_86 hl (by decide) (by cases u4 <;> rfl) (fun ls hl => ?_)
        refine lv_iload hx hb dX0_findInSources_88 (lv_at hl 0 rfl) ?_
        refine lv_if_eq (tgt := 114) hx hb dX0_findInSources_90 (by decide) (fun c_23 => ?_) (fun c_23 => ?_)
        · skip
          replace h := (if_pos c_23).symm.trans h
          refine lv_iconst (v := (-1)) hx hb dX0_findInSources_114 (by decide) ?_
          exact B_115 cs1 u0 u1 u2 u3 u4 y0 (-1) h _ _ _ hP hD hS (lv_sub hl [1, 2, 3, 4, 5, 0] rfl)
        · skip
          replace h := (if_neg c_23).symm.trans h
          refine lv_aloadO hx hb dX0_findInSources_93 (lv_at hl 5 rfl) ?_
          replace h := ob h; obtain ⟨i_24, hi_24, h⟩ := h
          subst hi_24
          replace h := ob h; obtain ⟨v_25, hv_25, h⟩ := h
          refine fg_X0_183 hx hb hts hown hK hP hv_25 dX0_findInSources_95 ?_
          refine lv_aload_n hx hb dX0_findInSources_98 rfl (lv_at hl 1 rfl) ?_
          replace h := ob h; obtain ⟨v_26, hv_26, h⟩ := h
          refine fg_X0_25 hx hb hts hown hK hP hv_26 dX0_findInSources_99 ?_
          replace h := ob h; obtain ⟨i_27, hi_27, h⟩ := h
          subst hi_27
          replace h := ob h; obtain ⟨v_28, hv_28, h⟩ := h
          refine fg_X0_296 hx hb hts hown hK hP hv_28 dX0_findInSources_102 ?_
          refine lv_iload_n hx hb dX0_findInSources_105 rfl (lv_at hl 2 rfl) ?_
          replace h := ob h; obtain ⟨v_29, hv_29, h⟩ := h
          refine ald2 hx hb hK hP rfl hv_29 dX0_findInSources_106 ?_
          refine lv_iconst (v := 0) hx hb dX0_findInSources_107 (by decide) ?_
          replace h := ob h; obtain ⟨i_31, hi_31, h⟩ := h
          subst hi_31
          replace h := ob h; obtain ⟨w_32, hw_32, h⟩ := h
          replace h := ob h; obtain ⟨v_30, hv_30, h⟩ := h
          refine ccI (As := [.long v_29, .int 0]) hx hb hml hts hown hK hP hD hS hA hZ (X := 3) (by decide) rfl (ckE_some hw_32) (sc_X2_find l dC dI cB cI cJ cZ cS cO b K V fz F cs1 i_31 v_29 0 v_30 hv_30) (cw_X0_X2_find hts (fr := 1) (Nat.le_of_ble_eq_true rfl) (Nat.le_of_ble_eq_true rfl)) rfl hl.1 (Nat.le_of_ble_eq_true rfl) ⟨Nat.zero_le _, Nat.zero_le _⟩ dX0_findInSources_108 (fun H locs hP hD hS => ?_)
          refine lv_goto (tgt := 115) hx hb dX0_findInSources_111 (by decide) ?_
          exact B_115 cs1 u0 u1 u2 u3 (some i_24) y0 v_30 h _ _ _ hP hD hS (lv_sub hl [1, 2, 3, 4, 5, 0] rfl)
      have B_81 : ∀ (cs1 : CS) (u0 : Nat) (u1 : Int32) (u2 : Int32) (u3 : Int32) (u4 : Nat), c_X0_findInSources_b81 F (c_X0_findInSources_L4 F lf_4) cs1 u0 u1 u2 u3 u4 = some cs9 → ∀ (H : Heap) (locs : List Loc) (ls : Array Slot), va_P (dC, dI) vwCl (cW cB cI cJ cZ cS cO b cs1) H → va_D A (cW cB cI cJ cZ cS cO b cs1) → va_S A s.heap H locs → lv_has ls 7 [(0, .ref (b + u0)), (1, .int u1), (2, .int u2), (3, .int u3), (4, .ref (b + u4))] → W p l e (headSpec (wsOf yX0_findInSources cX0_findInSources 7 none) ({ frames := 2, cells := 0, slots := 0, locals := 60 * (2) } : Room)).room s m ([.ref (b + x0), .int x1] : List Value).toArray below meth c H locs 0 0 (MQ below (va_Qv (fun (_ : Unit) => True) (fun _ t_ => va_P (dC, dI) vwCl (cW cB cI cJ cZ cS cO b cs9) t_.heap ∧ va_D A (cW cB cI cJ cZ cS cO b cs9)) A) ([.ref (b + x0), .int x1] : List Value).toArray s 0 0 A) (F0 m 81 ls []) := by
        intro cs1 u0 u1 u2 u3 u4 h H locs ls hP hD hS hl
        unfold c_X0_findInSources_b81 at h
        refine lv_iconst (v := 1) hx hb dX0_findInSources_81 (by decide) ?_
        refine lv_goto (tgt := 86) hx hb dX0_findInSources_82 (by decide) ?_
        exact B_86 cs1 u0 u1 u2 u3 (some u4) 1 h _ _ _ hP hD hS (lv_sub hl [0, 1, 2, 3, 4] rfl)
      have B_85 : ∀ (cs1 : CS) (u0 : Nat) (u1 : Int32) (u2 : Int32) (u3 : Int32) (u4 : Option Nat), c_X0_findInSources_b85 F (c_X0_findInSources_L4 F lf_4) cs1 u0 u1 u2 u3 u4 = some cs9 → ∀ (H : Heap) (locs : List Loc) (ls : Array Slot), va_P (dC, dI) vwCl (cW cB cI cJ cZ cS cO b cs1) H → va_D A (cW cB cI cJ cZ cS cO b cs1) → va_S A s.heap H locs → lv_has ls 7 [(0, .ref (b + u0)), (1, .int u1), (2, .int u2), (3, .int u3), (4, rv b u4)] → W p l e (headSpec (wsOf yX0_findInSources cX0_findInSources 7 none) ({ frames := 2, cells := 0, slots := 0, locals := 60 * (2) } : Room)).room s m ([.ref (b + x0), .int x1] : List Value).toArray below meth c H locs 0 0 (MQ below (va_Qv (fun (_ : Unit) => True) (fun _ t_ => va_P (dC, dI) vwCl (cW cB cI cJ cZ cS cO b cs9) t_.heap ∧ va_D A (cW cB cI cJ cZ cS cO b cs9)) A) ([.ref (b + x0), .int x1] : List Value).toArray s 0 0 A) (F0 m 85 ls []) := by
        intro cs1 u0 u1 u2 u3 u4 h H locs ls hP hD hS hl
        unfold c_X0_findInSources_b85 at h
        refine lv_iconst (v := 0) hx hb dX0_findInSources_85 (by decide) ?_
        exact B_86 cs1 u0 u1 u2 u3 u4 0 h _ _ _ hP hD hS (lv_sub hl [0, 1, 2, 3, 4] rfl)
      intro cs1 u0 u1 u2 u3 h H locs ls hP hD hS hl
      rw [c_X0_findInSources_L4] at h
      refine lv_aload_n hx hb dX0_findInSources_4 rfl (lv_at hl 0 rfl) ?_
      replace h := ob h; obtain ⟨v_33, hv_33, h⟩ := h
      refine fg_X0_121 hx hb hts hown hK hP hv_33 dX0_findInSources_5 ?_
      cases v_33 with
      | none =>
        replace h := oc_n.symm.trans h
        refine lv_ifnullN (tgt := 181) hx hb dX0_findInSources_8 (by decide) ?_
        exact B_181 cs1 u0 u1 u2 h _ _ _ hP hD hS (lv_sub hl [0, 1, 2] rfl)
      | some i_34 =>
        replace h := oc_s.symm.trans h
        refine lv_ifnull hx hb dX0_findInSources_8 ?_
        refine lv_iload_n hx hb dX0_findInSources_11 rfl (lv_at hl 3 rfl) ?_
        refine lv_aload_n hx hb dX0_findInSources_12 rfl (lv_at hl 0 rfl) ?_
        replace h := ob h; obtain ⟨v_35, hv_35, h⟩ := h
        refine fg_X0_125 hx hb hts hown hK hP hv_35 dX0_findInSources_13 ?_
        refine lv_icmp_ge (tgt := 181) hx hb dX0_findInSources_16 (by decide) (fun c_36 => ?_) (fun c_36 => ?_)
        · skip
          replace h := (if_pos c_36).symm.trans h
          exact B_181 cs1 u0 u1 u2 h _ _ _ hP hD hS (lv_sub hl [0, 1, 2] rfl)
        · skip
          replace h := (if_neg c_36).symm.trans h
          refine lv_iload_n hx hb dX0_findInSources_19 rfl (lv_at hl 3 rfl) ?_
          refine lv_aload_n hx hb dX0_findInSources_20 rfl (lv_at hl 0 rfl) ?_
          replace h := ob h; obtain ⟨v_37, hv_37, h⟩ := h
          refine fg_X0_121 hx hb hts hown hK hP hv_37 dX0_findInSources_21 ?_
          replace h := ob h; obtain ⟨i_38, hi_38, h⟩ := h
          subst hi_38
          replace h := ob h; obtain ⟨v_39, hv_39, h⟩ := h
          refine fg_X0_113 hx hb hts hown hK hP hv_39 dX0_findInSources_24 ?_
          replace h := ob h; obtain ⟨v_40, hv_40, h⟩ := h
          refine alen3 hx hb hK hP rfl hv_40 dX0_findInSources_27 ?_
          refine lv_icmp_ge (tgt := 181) hx hb dX0_findInSources_28 (by decide) (fun c_41 => ?_) (fun c_41 => ?_)
          · skip
            replace h := (if_pos c_41).symm.trans h
            exact B_181 cs1 u0 u1 u2 h _ _ _ hP hD hS (lv_sub hl [0, 1, 2] rfl)
          · skip
            replace h := (if_neg c_41).symm.trans h
            refine lv_aload_n hx hb dX0_findInSources_31 rfl (lv_at hl 0 rfl) ?_
            replace h := ob h; obtain ⟨v_42, hv_42, h⟩ := h
            refine fg_X0_121 hx hb hts hown hK hP hv_42 dX0_findInSources_32 ?_
            replace h := ob h; obtain ⟨i_43, hi_43, h⟩ := h
            subst hi_43
            replace h := ob h; obtain ⟨v_44, hv_44, h⟩ := h
            refine fg_X0_113 hx hb hts hown hK hP hv_44 dX0_findInSources_35 ?_
            refine lv_iload_n hx hb dX0_findInSources_38 rfl (lv_at hl 3 rfl) ?_
            replace h := ob h; obtain ⟨v_45, hv_45, h⟩ := h
            refine aldQ hx hb hK hP rfl hv_45 dX0_findInSources_39 ?_
            refine lv_astoreO (lv' := [(4, rv b v_45), (0, .ref (b + u0)), (1, .int u1), (2, .int u2), (3, .int u3)]) hx hb dX0_findInSources_40 hl (by decide) rfl (fun ls hl => ?_)
            refine lv_aloadO hx hb dX0_findInSources_42 (lv_at hl 0 rfl) ?_
            cases v_45 with
            | none =>
              replace h := oc_n.symm.trans h
              refine lv_ifnullN (tgt := 85) hx hb dX0_findInSources_44 (by decide) ?_
              exact B_85 cs1 u0 u1 u2 u3 none h _ _ _ hP hD hS (lv_sub hl [1, 2, 3, 4, 0] rfl)
            | some i_46 =>
              replace h := oc_s.symm.trans h
              refine lv_ifnull hx hb dX0_findInSources_44 ?_
              refine lv_aload_n hx hb dX0_findInSources_47 rfl (lv_at hl 1 rfl) ?_
              replace h := ob h; obtain ⟨v_47, hv_47, h⟩ := h
              refine fg_X0_25 hx hb hts hown hK hP hv_47 dX0_findInSources_48 ?_
              replace h := ob h; obtain ⟨i_48, hi_48, h⟩ := h
              subst hi_48
              replace h := ob h; obtain ⟨v_49, hv_49, h⟩ := h
              refine fg_X0_291 hx hb hts hown hK hP hv_49 dX0_findInSources_51 ?_
              refine lv_iload_n hx hb dX0_findInSources_54 rfl (lv_at hl 2 rfl) ?_
              replace h := ob h; obtain ⟨v_50, hv_50, h⟩ := h
              refine ald2 hx hb hK hP rfl hv_50 dX0_findInSources_55 ?_
              refine lv_ldc2 hx hb hown (hts _ (List.mem_cons_of_mem _ kw_1266)) dX0_findInSources_56 ?_
              refine W.lcmp hx hb dX0_findInSources_59 ?_
              refine lv_if_eq (tgt := 81) hx hb dX0_findInSources_60 (by decide) (fun c_51 => ?_) (fun c_51 => ?_)
              · skip
                have c_51 : v_50 = (-1) := (lg_cmp_eq _ _).mp c_51
                replace h := (if_pos c_51).symm.trans h
                exact B_81 cs1 u0 u1 u2 u3 i_46 h _ _ _ hP hD hS (lv_sub hl [1, 2, 3, 4, 0] rfl)
              · skip
                have c_51 : ¬ (v_50 = (-1)) := fun h9 => c_51 ((lg_cmp_eq _ _).mpr h9)
                replace h := (if_neg c_51).symm.trans h
                refine lv_aload_n hx hb dX0_findInSources_63 rfl (lv_at hl 1 rfl) ?_
                replace h := ob h; obtain ⟨v_52, hv_52, h⟩ := h
                refine fg_X0_25 hx hb hts hown hK hP hv_52 dX0_findInSources_64 ?_
                replace h := ob h; obtain ⟨i_53, hi_53, h⟩ := h
                subst hi_53
                replace h := ob h; obtain ⟨v_54, hv_54, h⟩ := h
                refine fg_X0_291 hx hb hts hown hK hP hv_54 dX0_findInSources_67 ?_
                refine lv_iload_n hx hb dX0_findInSources_70 rfl (lv_at hl 2 rfl) ?_
                replace h := ob h; obtain ⟨v_55, hv_55, h⟩ := h
                refine ald2 hx hb hK hP rfl hv_55 dX0_findInSources_71 ?_
                refine lv_aload hx hb dX0_findInSources_72 (lv_at hl 0 rfl) ?_
                replace h := ob h; obtain ⟨v_56, hv_56, h⟩ := h
                refine fg_X0_171 hx hb hts hown hK hP hv_56 dX0_findInSources_74 ?_
                refine W.lcmp hx hb dX0_findInSources_77 ?_
                refine lv_if_ne (tgt := 85) hx hb dX0_findInSources_78 (by decide) (fun c_57 => ?_) (fun c_57 => ?_)
                · skip
                  have c_57 : ¬ (v_55 = v_56) := fun h9 => c_57 ((lg_cmp_eq _ _).mpr h9)
                  replace h := (if_neg c_57).symm.trans h
                  exact B_85 cs1 u0 u1 u2 u3 (some i_46) h _ _ _ hP hD hS (lv_sub hl [1, 2, 3, 4, 0] rfl)
                · skip
                  have c_57 : v_55 = v_56 := (lg_cmp_eq _ _).mp c_57
                  replace h := (if_pos c_57).symm.trans h
                  exact B_81 cs1 u0 u1 u2 u3 i_46 h _ _ _ hP hD hS (lv_sub hl [1, 2, 3, 4, 0] rfl)
  have h := hf
  unfold c_X0_findInSources at h
  refine lv_iconst (v := 0) hx hb dX0_findInSources_0 (by decide) ?_
  refine lv_istore_n (lv' := [(2, .int 0), (0, .ref (b + x0)), (1, .int x1)]) hx hb dX0_findInSources_1 rfl hl (by decide) rfl (fun ls hl => ?_)
  refine lv_iconst (v := 0) hx hb dX0_findInSources_2 (by decide) ?_
  refine lv_istore_n (lv' := [(3, .int 0), (2, .int 0), (0, .ref (b + x0)), (1, .int x1)]) hx hb dX0_findInSources_3 rfl hl (by decide) rfl (fun ls hl => ?_)
  exact L_4 F cs x0 x1 0 0 h _ _ _ hP hD hS (lv_sub hl [2, 3, 1, 0] rfl)
theorem dX0_findInNames_0 : decode cX0_findInNames 0 = .ok (.aload_n 0, 1) := by decide +kernel
theorem dX0_findInNames_1 : decode cX0_findInNames 1 = .ok (.getfield 25, 3) := by decide +kernel
theorem dX0_findInNames_4 : decode cX0_findInNames 4 = .ok (.getfield 291, 3) := by decide +kernel
theorem dX0_findInNames_7 : decode cX0_findInNames 7 = .ok (.iload_n 1, 1) := by decide +kernel
theorem dX0_findInNames_8 : decode cX0_findInNames 8 = .ok (.laload, 1) := by decide +kernel
theorem dX0_findInNames_9 : decode cX0_findInNames 9 = .ok (.ldc2_w 294, 3) := by decide +kernel
theorem dX0_findInNames_12 : decode cX0_findInNames 12 = .ok (.lcmp, 1) := by decide +kernel
theorem dX0_findInNames_13 : decode cX0_findInNames 13 = .ok (.ifCond .ne 20, 3) := by decide +kernel
theorem dX0_findInNames_16 : decode cX0_findInNames 16 = .ok (.aload_n 2, 1) := by decide +kernel
theorem dX0_findInNames_17 : decode cX0_findInNames 17 = .ok (.aload_n 0, 1) := by decide +kernel
theorem dX0_findInNames_18 : decode cX0_findInNames 18 = .ok (.getfield 25, 3) := by decide +kernel
theorem dX0_findInNames_21 : decode cX0_findInNames 21 = .ok (.getfield 296, 3) := by decide +kernel
theorem dX0_findInNames_24 : decode cX0_findInNames 24 = .ok (.iload_n 1, 1) := by decide +kernel
theorem dX0_findInNames_25 : decode cX0_findInNames 25 = .ok (.laload, 1) := by decide +kernel
theorem dX0_findInNames_26 : decode cX0_findInNames 26 = .ok (.iconst 0, 1) := by decide +kernel
theorem dX0_findInNames_27 : decode cX0_findInNames 27 = .ok (.invokevirtual 261, 3) := by decide +kernel
theorem dX0_findInNames_30 : decode cX0_findInNames 30 = .ok (.goto 4, 3) := by decide +kernel
theorem dX0_findInNames_33 : decode cX0_findInNames 33 = .ok (.iconst (-1), 1) := by decide +kernel
theorem dX0_findInNames_34 : decode cX0_findInNames 34 = .ok (.istore_n 3, 1) := by decide +kernel
theorem dX0_findInNames_35 : decode cX0_findInNames 35 = .ok (.aload_n 2, 1) := by decide +kernel
theorem dX0_findInNames_36 : decode cX0_findInNames 36 = .ok (.iload_n 3, 1) := by decide +kernel
theorem dX0_findInNames_37 : decode cX0_findInNames 37 = .ok (.invokevirtual 221, 3) := by decide +kernel
theorem dX0_findInNames_40 : decode cX0_findInNames 40 = .ok (.ifCond .ne 10, 3) := by decide +kernel
theorem dX0_findInNames_43 : decode cX0_findInNames 43 = .ok (.aload_n 0, 1) := by decide +kernel
theorem dX0_findInNames_44 : decode cX0_findInNames 44 = .ok (.iconst 0, 1) := by decide +kernel
theorem dX0_findInNames_45 : decode cX0_findInNames 45 = .ok (.iload_n 1, 1) := by decide +kernel
theorem dX0_findInNames_46 : decode cX0_findInNames 46 = .ok (.invokevirtual 299, 3) := by decide +kernel
theorem dX0_findInNames_49 : decode cX0_findInNames 49 = .ok (.return_, 1) := by decide +kernel
theorem dX0_findInNames_50 : decode cX0_findInNames 50 = .ok (.aload_n 0, 1) := by decide +kernel
theorem dX0_findInNames_51 : decode cX0_findInNames 51 = .ok (.getfield 25, 3) := by decide +kernel
theorem dX0_findInNames_54 : decode cX0_findInNames 54 = .ok (.getfield 268, 3) := by decide +kernel
theorem dX0_findInNames_57 : decode cX0_findInNames 57 = .ok (.iload_n 1, 1) := by decide +kernel
theorem dX0_findInNames_58 : decode cX0_findInNames 58 = .ok (.iload_n 3, 1) := by decide +kernel
theorem dX0_findInNames_59 : decode cX0_findInNames 59 = .ok (.iastore, 1) := by decide +kernel
theorem dX0_findInNames_60 : decode cX0_findInNames 60 = .ok (.aload_n 0, 1) := by decide +kernel
theorem dX0_findInNames_61 : decode cX0_findInNames 61 = .ok (.getfield 25, 3) := by decide +kernel
theorem dX0_findInNames_64 : decode cX0_findInNames 64 = .ok (.getfield 271, 3) := by decide +kernel
theorem dX0_findInNames_67 : decode cX0_findInNames 67 = .ok (.iload_n 1, 1) := by decide +kernel
theorem dX0_findInNames_68 : decode cX0_findInNames 68 = .ok (.aload_n 2, 1) := by decide +kernel
theorem dX0_findInNames_69 : decode cX0_findInNames 69 = .ok (.getfield 227, 3) := by decide +kernel
theorem dX0_findInNames_72 : decode cX0_findInNames 72 = .ok (.iload_n 3, 1) := by decide +kernel
theorem dX0_findInNames_73 : decode cX0_findInNames 73 = .ok (.iaload, 1) := by decide +kernel
theorem dX0_findInNames_74 : decode cX0_findInNames 74 = .ok (.iastore, 1) := by decide +kernel
theorem dX0_findInNames_75 : decode cX0_findInNames 75 = .ok (.aload_n 0, 1) := by decide +kernel
theorem dX0_findInNames_76 : decode cX0_findInNames 76 = .ok (.aload_n 2, 1) := by decide +kernel
theorem dX0_findInNames_77 : decode cX0_findInNames 77 = .ok (.aload_n 0, 1) := by decide +kernel
theorem dX0_findInNames_78 : decode cX0_findInNames 78 = .ok (.getfield 25, 3) := by decide +kernel
theorem dX0_findInNames_81 : decode cX0_findInNames 81 = .ok (.getfield 296, 3) := by decide +kernel
theorem dX0_findInNames_84 : decode cX0_findInNames 84 = .ok (.iload_n 1, 1) := by decide +kernel
theorem dX0_findInNames_85 : decode cX0_findInNames 85 = .ok (.laload, 1) := by decide +kernel
theorem dX0_findInNames_86 : decode cX0_findInNames 86 = .ok (.iload_n 3, 1) := by decide +kernel
theorem dX0_findInNames_87 : decode cX0_findInNames 87 = .ok (.iconst 1, 1) := by decide +kernel
theorem dX0_findInNames_88 : decode cX0_findInNames 88 = .ok (.iadd, 1) := by decide +kernel
theorem dX0_findInNames_89 : decode cX0_findInNames 89 = .ok (.invokevirtual 261, 3) := by decide +kernel
theorem dX0_findInNames_92 : decode cX0_findInNames 92 = .ok (.iconst (-1), 1) := by decide +kernel
theorem dX0_findInNames_93 : decode cX0_findInNames 93 = .ok (.if_icmp .ne 7, 3) := by decide +kernel
theorem dX0_findInNames_96 : decode cX0_findInNames 96 = .ok (.iconst 1, 1) := by decide +kernel
theorem dX0_findInNames_97 : decode cX0_findInNames 97 = .ok (.goto 4, 3) := by decide +kernel
theorem dX0_findInNames_100 : decode cX0_findInNames 100 = .ok (.iconst 2, 1) := by decide +kernel
theorem dX0_findInNames_101 : decode cX0_findInNames 101 = .ok (.iload_n 1, 1) := by decide +kernel
theorem dX0_findInNames_102 : decode cX0_findInNames 102 = .ok (.invokevirtual 299, 3) := by decide +kernel
theorem dX0_findInNames_105 : decode cX0_findInNames 105 = .ok (.return_, 1) := by decide +kernel
def c_X0_findInNames_b101 (F : Nat) (cs1 : CS) (u1 : Int32) (y0 : Int32) (y1 : Nat) : Option CS := Option.bind (ckE cs1 1 y1) fun _ => Option.bind (c_X0_refuseUnlessOne F cs1 y1 y0 u1) fun cs_1 => some cs_1
def c_X0_findInNames_b34 (F : Nat) (cs1 : CS) (u0 : Nat) (u1 : Int32) (u2 : Nat) (y0 : Int32) : Option CS := Option.bind (ckE cs1 3 u2) fun _ => Option.bind (c_X2_has F cs1 u2 y0) fun v_3 => if v_3 = 0 then (Option.bind (ckE cs1 1 u0) fun _ => Option.bind (c_X0_refuseUnlessOne F cs1 u0 0 u1) fun cs_23 => some cs_23) else (Option.bind (gR cs1 1 34 u0) fun v_6 => Option.bind (v_6) fun i_7 => Option.bind (gA cs1 2 72 i_7) fun v_8 => Option.bind (wA cs1 72 i_7 v_8 u1 y0) fun cs_9 => Option.bind (gR cs_9 1 34 u0) fun v_10 => Option.bind (v_10) fun i_11 => Option.bind (gA cs_9 2 73 i_11) fun v_12 => Option.bind (gA cs_9 3 100 u2) fun v_13 => Option.bind (rA cs_9 100 u2 v_13 y0) fun v_14 => Option.bind (wA cs_9 73 i_11 v_12 u1 v_14) fun cs_15 => Option.bind (gR cs_15 1 34 u0) fun v_16 => Option.bind (v_16) fun i_17 => Option.bind (gA cs_15 2 69 i_17) fun v_18 => Option.bind (rB cs_15 69 i_17 v_18 u1) fun v_19 => Option.bind (ckE cs_15 3 u2) fun _ => Option.bind (c_X2_find F cs_15 u2 v_19 (y0 + 1)) fun v_20 => if v_20 = (-1) then (c_X0_findInNames_b101 F cs_15 u1 1 u0) else (c_X0_findInNames_b101 F cs_15 u1 2 u0))
def c_X0_findInNames (F : Nat) (cs : CS) (x0 : Nat) (x1 : Int32) (x2 : Nat) : Option CS := Option.bind (gR cs 1 34 x0) fun v_25 => Option.bind (v_25) fun i_26 => Option.bind (gA cs 2 70 i_26) fun v_27 => Option.bind (rB cs 70 i_26 v_27 x1) fun v_28 => if v_28 = (-1) then (Option.bind (gR cs 1 34 x0) fun v_30 => Option.bind (v_30) fun i_31 => Option.bind (gA cs 2 69 i_31) fun v_32 => Option.bind (rB cs 69 i_31 v_32 x1) fun v_33 => Option.bind (ckE cs 3 x2) fun _ => Option.bind (c_X2_find F cs x2 v_33 0) fun v_34 => c_X0_findInNames_b34 F cs x0 x1 x2 v_34) else (c_X0_findInNames_b34 F cs x0 x1 x2 (-1))
theorem cw_X0_X0_findInNames {R : Room} {s : State} {args : Array Value} {y0 : MethodName} {c0 : ByteArray} {n0 : Nat} {r0 : Option FieldType} (hts : ∀ w ∈ wsOf y0 c0 n0 r0, w.before args s = true) {fr : Nat} (h1 : fr + 1 ≤ R.frames) (h2 : 8 + (4 + 11) + 60 * fr ≤ R.locals) : CallW R s args RX0 RX0 287 yX0_findInNames cX0_findInNames 4 none (wsOf yX0_findInNames cX0_findInNames 4 none) ({ frames := fr, cells := 0, slots := 0, locals := 60 * fr } : Room) 0 0 2 := cwV 2 hts (gd_all (in_V kw_1272 kw_1274 kw_59 kw_204 kc_X0_findInNames)) rfl rfl rfl (by decide +kernel) ⟨h1, h2⟩
set_option maxHeartbeats 4000000 in
set_option maxRecDepth 100000 in
theorem sc_X0_findInNames (l : Launch) (dC : Nat → ClassId) (dI : Nat → Nat → Nat) (cB cI cJ cZ cS cO : ClassId) (b : Nat) (K V : Nat → Nat) (fz : Value) (F : Nat) (cs : CS) (x0 : Nat) (x1 : Int32) (x2 : Nat) (cs9 : CS) (hf : c_X0_findInNames F cs x0 x1 x2 = some cs9) : ocV l dC dI cB cI cJ cZ cS cO b K V fz yX0_findInNames (wsOf yX0_findInNames cX0_findInNames 4 none) (2) [.ref (b + x0), .int x1, .ref (b + x2)] cs cs9 := by
  intro sz
  refine Met.ofW (cc := cX0_findInNames) (maxL := 4) (ret := none) (by decide) rfl ?_
  intro p e s m args below meth c s₁ B hml hv
  obtain ⟨rfl, hsz, hP, hK, hD0, hZ⟩ := hv
  have hx := B.exec
  have hb := B.bytes
  have hr := B.returns
  have hts := atoms_spec (ws := (wsOf yX0_findInNames cX0_findInNames 4 none)) B.pre
  have hown : s.vm.findClass RX0 = some m.cls := findClass_of_methodNamed B.named
  have hlocks := B.notSynchronized
  subst hsz
  have hD := hD0.self (sz := s.heap.size)
  generalize hAe : va_A (cW cB cI cJ cZ cS cO b cs) s.heap.size = A at hD hZ ⊢
  have hA : ∀ q : Nat, s.heap.size ≤ q → A q := fun q h => by rw [← hAe]; exact Or.inr h
  have hS : va_S A s.heap s.heap [] := va_S.rf
  have hl := lv_entry ([.ref (b + x0), .int x1, .ref (b + x2)]) (n := 4) (Nat.le_of_ble_eq_true rfl)
  rw [lg_entry_eq]
  generalize (lg_sl ([.ref (b + x0), .int x1, .ref (b + x2)]) ++ List.replicate (4 - (lg_sl ([.ref (b + x0), .int x1, .ref (b + x2)])).length) Slot.unset).toArray = ls at hl ⊢
  have hl : lv_has ls 4 [(0, .ref (b + x0)), (1, .int x1), (2, .ref (b + x2))] := hl
  have B_101 : ∀ (cs1 : CS) (u1 : Int32) (y0 : Int32) (y1 : Nat), c_X0_findInNames_b101 F cs1 u1 y0 y1 = some cs9 → ∀ (H : Heap) (locs : List Loc) (ls : Array Slot), va_P (dC, dI) vwCl (cW cB cI cJ cZ cS cO b cs1) H → va_D A (cW cB cI cJ cZ cS cO b cs1) → va_S A s.heap H locs → lv_has ls 4 [(1, .int u1)] → W p l e (headSpec (wsOf yX0_findInNames cX0_findInNames 4 none) ({ frames := 2, cells := 0, slots := 0, locals := 60 * (2) } : Room)).room s m ([.ref (b + x0), .int x1, .ref (b + x2)] : List Value).toArray below meth c H locs 0 0 (MQ below (va_Qv (fun (_ : Unit) => True) (fun _ t_ => va_P (dC, dI) vwCl (cW cB cI cJ cZ cS cO b cs9) t_.heap ∧ va_D A (cW cB cI cJ cZ cS cO b cs9)) A) ([.ref (b + x0), .int x1, .ref (b + x2)] : List Value).toArray s 0 0 A) (F0 m 101 ls [.int y0, .ref (b + y1)]) := by
    intro cs1 u1 y0 y1 h H locs ls hP hD hS hl
    unfold c_X0_findInNames_b101 at h
    refine lv_iload_n hx hb dX0_findInNames_101 rfl (lv_at hl 0 rfl) ?_
    replace h := ob h; obtain ⟨w_2, hw_2, h⟩ := h
    replace h := ob h; obtain ⟨cs_1, hv_1, h⟩ := h
    refine ccV (As := [.int y0, .int u1]) hx hb hml hts hown hK hP hD hS hA hZ (X := 1) (by decide) rfl (ckE_some hw_2) (sc_X0_refuseUnlessOne l dC dI cB cI cJ cZ cS cO b K V fz F cs1 y1 y0 u1 cs_1 hv_1) (cw_X0_X0_refuseUnlessOne hts (fr := 1) (Nat.le_of_ble_eq_true rfl) (Nat.le_of_ble_eq_true rfl)) rfl hl.1 (Nat.le_of_ble_eq_true rfl) ⟨Nat.zero_le _, Nat.zero_le _⟩ dX0_findInNames_102 (fun H locs hP hD hS => ?_)
    have e1 := Option.some.inj h
    rw [e1] at hP hD
    exact W.vret hx hb hr (fun t_ ht hW => ⟨⟨(), rfl, trivial, by rw [ht]; exact hP, hD⟩, hS.F ht⟩) hS.2.2 dX0_findInNames_105
  have B_34 : ∀ (cs1 : CS) (u0 : Nat) (u1 : Int32) (u2 : Nat) (y0 : Int32), c_X0_findInNames_b34 F cs1 u0 u1 u2 y0 = some cs9 → ∀ (H : Heap) (locs : List Loc) (ls : Array Slot), va_P (dC, dI) vwCl (cW cB cI cJ cZ cS cO b cs1) H → va_D A (cW cB cI cJ cZ cS cO b cs1) → va_S A s.heap H locs → lv_has ls 4 [(0, .ref (b + u0)), (1, .int u1), (2, .ref (b + u2))] → W p l e (headSpec (wsOf yX0_findInNames cX0_findInNames 4 none) ({ frames := 2, cells := 0, slots := 0, locals := 60 * (2) } : Room)).room s m ([.ref (b + x0), .int x1, .ref (b + x2)] : List Value).toArray below meth c H locs 0 0 (MQ below (va_Qv (fun (_ : Unit) => True) (fun _ t_ => va_P (dC, dI) vwCl (cW cB cI cJ cZ cS cO b cs9) t_.heap ∧ va_D A (cW cB cI cJ cZ cS cO b cs9)) A) ([.ref (b + x0), .int x1, .ref (b + x2)] : List Value).toArray s 0 0 A) (F0 m 34 ls [.int y0]) := by
    intro cs1 u0 u1 u2 y0 h H locs ls hP hD hS hl
    unfold c_X0_findInNames_b34 at h
    refine lv_istore_n (lv' := [(3, .int y0), (0, .ref (b + u0)), (1, .int u1), (2, .ref (b + u2))]) hx hb dX0_findInNames_34 rfl hl (by decide) rfl (fun ls hl => ?_)
    refine lv_aload_n hx hb dX0_findInNames_35 rfl (lv_at hl 3 rfl) ?_
    refine lv_iload_n hx hb dX0_findInNames_36 rfl (lv_at hl 0 rfl) ?_
    replace h := ob h; obtain ⟨w_4, hw_4, h⟩ := h
    replace h := ob h; obtain ⟨v_3, hv_3, h⟩ := h
    refine ccI (As := [.int y0]) hx hb hml hts hown hK hP hD hS hA hZ (X := 3) (by decide) rfl (ckE_some hw_4) (sc_X2_has l dC dI cB cI cJ cZ cS cO b K V fz F cs1 u2 y0 v_3 hv_3) (cw_X0_X2_has hts (fr := 0) (Nat.le_of_ble_eq_true rfl) (Nat.le_of_ble_eq_true rfl)) rfl hl.1 (Nat.le_of_ble_eq_true rfl) ⟨Nat.zero_le _, Nat.zero_le _⟩ dX0_findInNames_37 (fun H locs hP hD hS => ?_)
    refine lv_if_ne (tgt := 50) hx hb dX0_findInNames_40 (by decide) (fun c_5 => ?_) (fun c_5 => ?_)
    · skip
      replace h := (if_neg c_5).symm.trans h
      refine lv_aload_n hx hb dX0_findInNames_50 rfl (lv_at hl 1 rfl) ?_
      replace h := ob h; obtain ⟨v_6, hv_6, h⟩ := h
      refine fg_X0_25 hx hb hts hown hK hP hv_6 dX0_findInNames_51 ?_
      replace h := ob h; obtain ⟨i_7, hi_7, h⟩ := h
      subst hi_7
      replace h := ob h; obtain ⟨v_8, hv_8, h⟩ := h
      refine fg_X0_268 hx hb hts hown hK hP hv_8 dX0_findInNames_54 ?_
      refine lv_iload_n hx hb dX0_findInNames_57 rfl (lv_at hl 2 rfl) ?_
      refine lv_iload_n hx hb dX0_findInNames_58 rfl (lv_at hl 0 rfl) ?_
      replace h := ob h; obtain ⟨cs_9, hv_9, h⟩ := h
      refine ast0 hx hb hK hP hD hS rfl hv_9 dX0_findInNames_59 (fun H locs hP hD hS => ?_)
      refine lv_aload_n hx hb dX0_findInNames_60 rfl (lv_at hl 1 rfl) ?_
      replace h := ob h; obtain ⟨v_10, hv_10, h⟩ := h
      refine fg_X0_25 hx hb hts hown hK hP hv_10 dX0_findInNames_61 ?_
      replace h := ob h; obtain ⟨i_11, hi_11, h⟩ := h
      subst hi_11
      replace h := ob h; obtain ⟨v_12, hv_12, h⟩ := h
      refine fg_X0_271 hx hb hts hown hK hP hv_12 dX0_findInNames_64 ?_
      refine lv_iload_n hx hb dX0_findInNames_67 rfl (lv_at hl 2 rfl) ?_
      refine lv_aload_n hx hb dX0_findInNames_68 rfl (lv_at hl 3 rfl) ?_
      replace h := ob h; obtain ⟨v_13, hv_13, h⟩ := h
      refine fg_X0_227 hx hb hts hown hK hP hv_13 dX0_findInNames_69 ?_
      refine lv_iload_n hx hb dX0_findInNames_72 rfl (lv_at hl 0 rfl) ?_
      replace h := ob h; obtain ⟨v_14, hv_14, h⟩ := h
      refine ald0 hx hb hK hP rfl hv_14 dX0_findInNames_73 ?_
      replace h := ob h; obtain ⟨cs_15, hv_15, h⟩ := h
      refine ast0 hx hb hK hP hD hS rfl hv_15 dX0_findInNames_74 (fun H locs hP hD hS => ?_)
      refine lv_aload_n hx hb dX0_findInNames_75 rfl (lv_at hl 1 rfl) ?_
      refine lv_aload_n hx hb dX0_findInNames_76 rfl (lv_at hl 3 rfl) ?_
      refine lv_aload_n hx hb dX0_findInNames_77 rfl (lv_at hl 1 rfl) ?_
      replace h := ob h; obtain ⟨v_16, hv_16, h⟩ := h
      refine fg_X0_25 hx hb hts hown hK hP hv_16 dX0_findInNames_78 ?_
      replace h := ob h; obtain ⟨i_17, hi_17, h⟩ := h
      subst hi_17
      replace h := ob h; obtain ⟨v_18, hv_18, h⟩ := h
      refine fg_X0_296 hx hb hts hown hK hP hv_18 dX0_findInNames_81 ?_
      refine lv_iload_n hx hb dX0_findInNames_84 rfl (lv_at hl 2 rfl) ?_
      replace h := ob h; obtain ⟨v_19, hv_19, h⟩ := h
      refine ald2 hx hb hK hP rfl hv_19 dX0_findInNames_85 ?_
      refine lv_iload_n hx hb dX0_findInNames_86 rfl (lv_at hl 0 rfl) ?_
      refine lv_iconst (v := 1) hx hb dX0_findInNames_87 (by decide) ?_
      refine lv_iadd hx hb dX0_findInNames_88 ?_
      replace h := ob h; obtain ⟨w_21, hw_21, h⟩ := h
      replace h := ob h; obtain ⟨v_20, hv_20, h⟩ := h
      refine ccI (As := [.long v_19, .int (y0 + 1)]) hx hb hml hts hown hK hP hD hS hA hZ (X := 3) (by decide) rfl (ckE_some hw_21) (sc_X2_find l dC dI cB cI cJ cZ cS cO b K V fz F cs_15 u2 v_19 (y0 + 1) v_20 hv_20) (cw_X0_X2_find hts (fr := 1) (Nat.le_of_ble_eq_true rfl) (Nat.le_of_ble_eq_true rfl)) rfl hl.1 (Nat.le_of_ble_eq_true rfl) ⟨Nat.zero_le _, Nat.zero_le _⟩ dX0_findInNames_89 (fun H locs hP hD hS => ?_)
      refine lv_iconst (v := (-1)) hx hb dX0_findInNames_92 (by decide) ?_
      refine lv_icmp_ne (tgt := 100) hx hb dX0_findInNames_93 (by decide) (fun c_22 => ?_) (fun c_22 => ?_)
      · skip
        replace h := (if_neg c_22).symm.trans h
        refine lv_iconst (v := 2) hx hb dX0_findInNames_100 (by decide) ?_
        exact B_101 cs_15 u1 2 u0 h _ _ _ hP hD hS (lv_sub hl [2] rfl)
      · skip
        replace h := (if_pos c_22).symm.trans h
        refine lv_iconst (v := 1) hx hb dX0_findInNames_96 (by decide) ?_
        refine lv_goto (tgt := 101) hx hb dX0_findInNames_97 (by decide) ?_
        exact B_101 cs_15 u1 1 u0 h _ _ _ hP hD hS (lv_sub hl [2] rfl)
    · skip
      replace h := (if_pos c_5).symm.trans h
      refine lv_aload_n hx hb dX0_findInNames_43 rfl (lv_at hl 1 rfl) ?_
      refine lv_iconst (v := 0) hx hb dX0_findInNames_44 (by decide) ?_
      refine lv_iload_n hx hb dX0_findInNames_45 rfl (lv_at hl 2 rfl) ?_
      replace h := ob h; obtain ⟨w_24, hw_24, h⟩ := h
      replace h := ob h; obtain ⟨cs_23, hv_23, h⟩ := h
      refine ccV (As := [.int 0, .int u1]) hx hb hml hts hown hK hP hD hS hA hZ (X := 1) (by decide) rfl (ckE_some hw_24) (sc_X0_refuseUnlessOne l dC dI cB cI cJ cZ cS cO b K V fz F cs1 u0 0 u1 cs_23 hv_23) (cw_X0_X0_refuseUnlessOne hts (fr := 1) (Nat.le_of_ble_eq_true rfl) (Nat.le_of_ble_eq_true rfl)) rfl hl.1 (Nat.le_of_ble_eq_true rfl) ⟨Nat.zero_le _, Nat.zero_le _⟩ dX0_findInNames_46 (fun H locs hP hD hS => ?_)
      have e1 := Option.some.inj h
      rw [e1] at hP hD
      exact W.vret hx hb hr (fun t_ ht hW => ⟨⟨(), rfl, trivial, by rw [ht]; exact hP, hD⟩, hS.F ht⟩) hS.2.2 dX0_findInNames_49
  have h := hf
  unfold c_X0_findInNames at h
  refine lv_aload_n hx hb dX0_findInNames_0 rfl (lv_at hl 0 rfl) ?_
  replace h := ob h; obtain ⟨v_25, hv_25, h⟩ := h
  refine fg_X0_25 hx hb hts hown hK hP hv_25 dX0_findInNames_1 ?_
  replace h := ob h; obtain ⟨i_26, hi_26, h⟩ := h
  subst hi_26
  replace h := ob h; obtain ⟨v_27, hv_27, h⟩ := h
  refine fg_X0_291 hx hb hts hown hK hP hv_27 dX0_findInNames_4 ?_
  refine lv_iload_n hx hb dX0_findInNames_7 rfl (lv_at hl 1 rfl) ?_
  replace h := ob h; obtain ⟨v_28, hv_28, h⟩ := h
  refine ald2 hx hb hK hP rfl hv_28 dX0_findInNames_8 ?_
  refine lv_ldc2 hx hb hown (hts _ (List.mem_cons_of_mem _ kw_1266)) dX0_findInNames_9 ?_
  refine W.lcmp hx hb dX0_findInNames_12 ?_
  refine lv_if_ne (tgt := 33) hx hb dX0_findInNames_13 (by decide) (fun c_29 => ?_) (fun c_29 => ?_)
  · skip
    have c_29 : ¬ (v_28 = (-1)) := fun h9 => c_29 ((lg_cmp_eq _ _).mpr h9)
    replace h := (if_neg c_29).symm.trans h
    refine lv_iconst (v := (-1)) hx hb dX0_findInNames_33 (by decide) ?_
    exact B_34 cs x0 x1 x2 (-1) h _ _ _ hP hD hS (lv_sub hl [0, 1, 2] rfl)
  · skip
    have c_29 : v_28 = (-1) := (lg_cmp_eq _ _).mp c_29
    replace h := (if_pos c_29).symm.trans h
    refine lv_aload_n hx hb dX0_findInNames_16 rfl (lv_at hl 2 rfl) ?_
    refine lv_aload_n hx hb dX0_findInNames_17 rfl (lv_at hl 0 rfl) ?_
    replace h := ob h; obtain ⟨v_30, hv_30, h⟩ := h
    refine fg_X0_25 hx hb hts hown hK hP hv_30 dX0_findInNames_18 ?_
    replace h := ob h; obtain ⟨i_31, hi_31, h⟩ := h
    subst hi_31
    replace h := ob h; obtain ⟨v_32, hv_32, h⟩ := h
    refine fg_X0_296 hx hb hts hown hK hP hv_32 dX0_findInNames_21 ?_
    refine lv_iload_n hx hb dX0_findInNames_24 rfl (lv_at hl 1 rfl) ?_
    replace h := ob h; obtain ⟨v_33, hv_33, h⟩ := h
    refine ald2 hx hb hK hP rfl hv_33 dX0_findInNames_25 ?_
    refine lv_iconst (v := 0) hx hb dX0_findInNames_26 (by decide) ?_
    replace h := ob h; obtain ⟨w_35, hw_35, h⟩ := h
    replace h := ob h; obtain ⟨v_34, hv_34, h⟩ := h
    refine ccI (As := [.long v_33, .int 0]) hx hb hml hts hown hK hP hD hS hA hZ (X := 3) (by decide) rfl (ckE_some hw_35) (sc_X2_find l dC dI cB cI cJ cZ cS cO b K V fz F cs x2 v_33 0 v_34 hv_34) (cw_X0_X2_find hts (fr := 1) (Nat.le_of_ble_eq_true rfl) (Nat.le_of_ble_eq_true rfl)) rfl hl.1 (Nat.le_of_ble_eq_true rfl) ⟨Nat.zero_le _, Nat.zero_le _⟩ dX0_findInNames_27 (fun H locs hP hD hS => ?_)
    refine lv_goto (tgt := 34) hx hb dX0_findInNames_30 (by decide) ?_
    exact B_34 cs x0 x1 x2 v_34 h _ _ _ hP hD hS (lv_sub hl [0, 1, 2] rfl)
theorem dX0_checkExpr_0 : decode cX0_checkExpr 0 = .ok (.aload_n 0, 1) := by decide +kernel
theorem dX0_checkExpr_1 : decode cX0_checkExpr 1 = .ok (.getfield 25, 3) := by decide +kernel
theorem dX0_checkExpr_4 : decode cX0_checkExpr 4 = .ok (.iload_n 1, 1) := by decide +kernel
theorem dX0_checkExpr_5 : decode cX0_checkExpr 5 = .ok (.invokevirtual 243, 3) := by decide +kernel
theorem dX0_checkExpr_8 : decode cX0_checkExpr 8 = .ok (.ifCond .ne 4, 3) := by decide +kernel
theorem dX0_checkExpr_11 : decode cX0_checkExpr 11 = .ok (.return_, 1) := by decide +kernel
theorem dX0_checkExpr_12 : decode cX0_checkExpr 12 = .ok (.iconst (-1), 1) := by decide +kernel
theorem dX0_checkExpr_13 : decode cX0_checkExpr 13 = .ok (.istore_n 2, 1) := by decide +kernel
theorem dX0_checkExpr_14 : decode cX0_checkExpr 14 = .ok (.aload_n 0, 1) := by decide +kernel
theorem dX0_checkExpr_15 : decode cX0_checkExpr 15 = .ok (.getfield 25, 3) := by decide +kernel
theorem dX0_checkExpr_18 : decode cX0_checkExpr 18 = .ok (.getfield 272, 3) := by decide +kernel
theorem dX0_checkExpr_21 : decode cX0_checkExpr 21 = .ok (.iload_n 1, 1) := by decide +kernel
theorem dX0_checkExpr_22 : decode cX0_checkExpr 22 = .ok (.iaload, 1) := by decide +kernel
theorem dX0_checkExpr_23 : decode cX0_checkExpr 23 = .ok (.istore_n 3, 1) := by decide +kernel
theorem dX0_checkExpr_24 : decode cX0_checkExpr 24 = .ok (.iload_n 3, 1) := by decide +kernel
theorem dX0_checkExpr_25 : decode cX0_checkExpr 25 = .ok (.iload_n 1, 1) := by decide +kernel
theorem dX0_checkExpr_26 : decode cX0_checkExpr 26 = .ok (.if_icmp .gt 103, 3) := by decide +kernel
theorem dX0_checkExpr_29 : decode cX0_checkExpr 29 = .ok (.aload_n 0, 1) := by decide +kernel
theorem dX0_checkExpr_30 : decode cX0_checkExpr 30 = .ok (.invokevirtual 42, 3) := by decide +kernel
theorem dX0_checkExpr_33 : decode cX0_checkExpr 33 = .ok (.ifCond .ne 96, 3) := by decide +kernel
theorem dX0_checkExpr_36 : decode cX0_checkExpr 36 = .ok (.aload_n 0, 1) := by decide +kernel
theorem dX0_checkExpr_37 : decode cX0_checkExpr 37 = .ok (.getfield 25, 3) := by decide +kernel
theorem dX0_checkExpr_40 : decode cX0_checkExpr 40 = .ok (.getfield 275, 3) := by decide +kernel
theorem dX0_checkExpr_43 : decode cX0_checkExpr 43 = .ok (.iload_n 3, 1) := by decide +kernel
theorem dX0_checkExpr_44 : decode cX0_checkExpr 44 = .ok (.iaload, 1) := by decide +kernel
theorem dX0_checkExpr_45 : decode cX0_checkExpr 45 = .ok (.iload_n 3, 1) := by decide +kernel
theorem dX0_checkExpr_46 : decode cX0_checkExpr 46 = .ok (.if_icmp .le 26, 3) := by decide +kernel
theorem dX0_checkExpr_49 : decode cX0_checkExpr 49 = .ok (.aload_n 0, 1) := by decide +kernel
theorem dX0_checkExpr_50 : decode cX0_checkExpr 50 = .ok (.getfield 25, 3) := by decide +kernel
theorem dX0_checkExpr_53 : decode cX0_checkExpr 53 = .ok (.getfield 275, 3) := by decide +kernel
theorem dX0_checkExpr_56 : decode cX0_checkExpr 56 = .ok (.iload_n 3, 1) := by decide +kernel
theorem dX0_checkExpr_57 : decode cX0_checkExpr 57 = .ok (.iaload, 1) := by decide +kernel
theorem dX0_checkExpr_58 : decode cX0_checkExpr 58 = .ok (.iload_n 1, 1) := by decide +kernel
theorem dX0_checkExpr_59 : decode cX0_checkExpr 59 = .ok (.if_icmp .gt 13, 3) := by decide +kernel
theorem dX0_checkExpr_62 : decode cX0_checkExpr 62 = .ok (.aload_n 0, 1) := by decide +kernel
theorem dX0_checkExpr_63 : decode cX0_checkExpr 63 = .ok (.getfield 25, 3) := by decide +kernel
theorem dX0_checkExpr_66 : decode cX0_checkExpr 66 = .ok (.getfield 275, 3) := by decide +kernel
theorem dX0_checkExpr_69 : decode cX0_checkExpr 69 = .ok (.iload_n 3, 1) := by decide +kernel
theorem dX0_checkExpr_70 : decode cX0_checkExpr 70 = .ok (.iaload, 1) := by decide +kernel
theorem dX0_checkExpr_71 : decode cX0_checkExpr 71 = .ok (.istore_n 2, 1) := by decide +kernel
theorem dX0_checkExpr_72 : decode cX0_checkExpr 72 = .ok (.aload_n 0, 1) := by decide +kernel
theorem dX0_checkExpr_73 : decode cX0_checkExpr 73 = .ok (.getfield 25, 3) := by decide +kernel
theorem dX0_checkExpr_76 : decode cX0_checkExpr 76 = .ok (.getfield 278, 3) := by decide +kernel
theorem dX0_checkExpr_79 : decode cX0_checkExpr 79 = .ok (.iload_n 3, 1) := by decide +kernel
theorem dX0_checkExpr_80 : decode cX0_checkExpr 80 = .ok (.iaload, 1) := by decide +kernel
theorem dX0_checkExpr_81 : decode cX0_checkExpr 81 = .ok (.bipush 39, 2) := by decide +kernel
theorem dX0_checkExpr_83 : decode cX0_checkExpr 83 = .ok (.if_icmp .eq 11, 3) := by decide +kernel
theorem dX0_checkExpr_86 : decode cX0_checkExpr 86 = .ok (.aload_n 0, 1) := by decide +kernel
theorem dX0_checkExpr_87 : decode cX0_checkExpr 87 = .ok (.iload_n 3, 1) := by decide +kernel
theorem dX0_checkExpr_88 : decode cX0_checkExpr 88 = .ok (.invokevirtual 281, 3) := by decide +kernel
theorem dX0_checkExpr_91 : decode cX0_checkExpr 91 = .ok (.goto 32, 3) := by decide +kernel
theorem dX0_checkExpr_94 : decode cX0_checkExpr 94 = .ok (.aload_n 0, 1) := by decide +kernel
theorem dX0_checkExpr_95 : decode cX0_checkExpr 95 = .ok (.getfield 103, 3) := by decide +kernel
theorem dX0_checkExpr_98 : decode cX0_checkExpr 98 = .ok (.ifnull 8, 3) := by decide +kernel
theorem dX0_checkExpr_101 : decode cX0_checkExpr 101 = .ok (.iload_n 3, 1) := by decide +kernel
theorem dX0_checkExpr_102 : decode cX0_checkExpr 102 = .ok (.iload_n 2, 1) := by decide +kernel
theorem dX0_checkExpr_103 : decode cX0_checkExpr 103 = .ok (.if_icmp .ge 11, 3) := by decide +kernel
theorem dX0_checkExpr_106 : decode cX0_checkExpr 106 = .ok (.aload_n 0, 1) := by decide +kernel
theorem dX0_checkExpr_107 : decode cX0_checkExpr 107 = .ok (.iload_n 3, 1) := by decide +kernel
theorem dX0_checkExpr_108 : decode cX0_checkExpr 108 = .ok (.invokevirtual 284, 3) := by decide +kernel
theorem dX0_checkExpr_111 : decode cX0_checkExpr 111 = .ok (.goto 12, 3) := by decide +kernel
theorem dX0_checkExpr_114 : decode cX0_checkExpr 114 = .ok (.aload_n 0, 1) := by decide +kernel
theorem dX0_checkExpr_115 : decode cX0_checkExpr 115 = .ok (.iload_n 3, 1) := by decide +kernel
theorem dX0_checkExpr_116 : decode cX0_checkExpr 116 = .ok (.aload_n 0, 1) := by decide +kernel
theorem dX0_checkExpr_117 : decode cX0_checkExpr 117 = .ok (.getfield 103, 3) := by decide +kernel
theorem dX0_checkExpr_120 : decode cX0_checkExpr 120 = .ok (.invokevirtual 287, 3) := by decide +kernel
theorem dX0_checkExpr_123 : decode cX0_checkExpr 123 = .ok (.iinc 3 1, 3) := by decide +kernel
theorem dX0_checkExpr_126 : decode cX0_checkExpr 126 = .ok (.goto (-102), 3) := by decide +kernel
theorem dX0_checkExpr_129 : decode cX0_checkExpr 129 = .ok (.return_, 1) := by decide +kernel
def c_X0_checkExpr_b129 (F : Nat) (cs1 : CS) : Option CS := some cs1
def c_X0_checkExpr_b123 (F : Nat) (rc24 : CS → Nat → Int32 → Int32 → Int32 → Option CS) (cs1 : CS) (u0 : Nat) (u1 : Int32) (u2 : Int32) (u3 : Int32) : Option CS := rc24 cs1 u0 u1 u2 (u3 + 1)
def c_X0_checkExpr_b106 (F : Nat) (rc24 : CS → Nat → Int32 → Int32 → Int32 → Option CS) (cs1 : CS) (u0 : Nat) (u1 : Int32) (u2 : Int32) (u3 : Int32) : Option CS := Option.bind (ckE cs1 1 u0) fun _ => Option.bind (c_X0_findInSources F cs1 u0 u3) fun cs_1 => c_X0_checkExpr_b123 F rc24 cs_1 u0 u1 u2 u3
def c_X0_checkExpr_b72 (F : Nat) (rc24 : CS → Nat → Int32 → Int32 → Int32 → Option CS) (cs1 : CS) (u0 : Nat) (u1 : Int32) (u2 : Int32) (u3 : Int32) : Option CS := Option.bind (gR cs1 1 34 u0) fun v_3 => Option.bind (v_3) fun i_4 => Option.bind (gA cs1 2 65 i_4) fun v_5 => Option.bind (rA cs1 65 i_4 v_5 u3) fun v_6 => if v_6 = 39 then (Option.bind (gR cs1 1 37 u0) fun v_8 => oc v_8 (c_X0_checkExpr_b106 F rc24 cs1 u0 u1 u2 u3) (fun i_9 => if u2 ≤ u3 then (Option.bind (gR cs1 1 37 u0) fun v_11 => Option.bind (v_11) fun i_12 => Option.bind (ckE cs1 1 u0) fun _ => Option.bind (c_X0_findInNames F cs1 u0 u3 i_12) fun cs_13 => c_X0_checkExpr_b123 F rc24 cs_13 u0 u1 u2 u3) else (c_X0_checkExpr_b106 F rc24 cs1 u0 u1 u2 u3))) else (Option.bind (ckE cs1 1 u0) fun _ => Option.bind (c_X0_checkAct F cs1 u0 u3) fun cs_15 => c_X0_checkExpr_b123 F rc24 cs_15 u0 u1 u2 u3)
def c_X0_checkExpr_L24 (F : Nat) : Nat → CS → Nat → Int32 → Int32 → Int32 → Option CS
  | 0, _, _, _, _, _ => none
  | lf_24 + 1, cs1, u0, u1, u2, u3 => if u1 < u3 then (c_X0_checkExpr_b129 F cs1) else (Option.bind (ckE cs1 1 u0) fun _ => Option.bind (c_X0_isFaulty F cs1 u0) fun v_18 => if v_18 = 0 then (Option.bind (gR cs1 1 34 u0) fun v_21 => Option.bind (v_21) fun i_22 => Option.bind (gA cs1 2 71 i_22) fun v_23 => Option.bind (rA cs1 71 i_22 v_23 u3) fun v_24 => if v_24 ≤ u3 then (c_X0_checkExpr_b72 F (c_X0_checkExpr_L24 F lf_24) cs1 u0 u1 u2 u3) else (Option.bind (gR cs1 1 34 u0) fun v_26 => Option.bind (v_26) fun i_27 => Option.bind (gA cs1 2 71 i_27) fun v_28 => Option.bind (rA cs1 71 i_27 v_28 u3) fun v_29 => if u1 < v_29 then (c_X0_checkExpr_b72 F (c_X0_checkExpr_L24 F lf_24) cs1 u0 u1 u2 u3) else (Option.bind (gR cs1 1 34 u0) fun v_31 => Option.bind (v_31) fun i_32 => Option.bind (gA cs1 2 71 i_32) fun v_33 => Option.bind (rA cs1 71 i_32 v_33 u3) fun v_34 => c_X0_checkExpr_b72 F (c_X0_checkExpr_L24 F lf_24) cs1 u0 u1 v_34 u3))) else (c_X0_checkExpr_b129 F cs1))
def c_X0_checkExpr (F : Nat) (cs : CS) (x0 : Nat) (x1 : Int32) : Option CS := Option.bind (gR cs 1 34 x0) fun v_35 => Option.bind (v_35) fun i_37 => Option.bind (ckE cs 2 i_37) fun _ => Option.bind (c_X1_has F cs i_37 x1) fun v_36 => if v_36 = 0 then (some cs) else (Option.bind (gR cs 1 34 x0) fun v_40 => Option.bind (v_40) fun i_41 => Option.bind (gA cs 2 67 i_41) fun v_42 => Option.bind (rA cs 67 i_41 v_42 x1) fun v_43 => c_X0_checkExpr_L24 F F cs x0 x1 (-1) v_43)
theorem cw_X0_X0_checkExpr {R : Room} {s : State} {args : Array Value} {y0 : MethodName} {c0 : ByteArray} {n0 : Nat} {r0 : Option FieldType} (hts : ∀ w ∈ wsOf y0 c0 n0 r0, w.before args s = true) {fr : Nat} (h1 : fr + 1 ≤ R.frames) (h2 : 8 + (4 + 11) + 60 * fr ≤ R.locals) : CallW R s args RX0 RX0 252 yX0_checkExpr cX0_checkExpr 4 none (wsOf yX0_checkExpr cX0_checkExpr 4 none) ({ frames := fr, cells := 0, slots := 0, locals := 60 * fr } : Room) 0 0 1 := cwV 1 hts (gd_all (in_V kw_1245 kw_1247 kw_53 kw_204 kc_X0_checkExpr)) rfl rfl rfl (by decide +kernel) ⟨h1, h2⟩
set_option maxHeartbeats 4000000 in
set_option maxRecDepth 100000 in
theorem sc_X0_checkExpr (l : Launch) (dC : Nat → ClassId) (dI : Nat → Nat → Nat) (cB cI cJ cZ cS cO : ClassId) (b : Nat) (K V : Nat → Nat) (fz : Value) (F : Nat) (cs : CS) (x0 : Nat) (x1 : Int32) (cs9 : CS) (hf : c_X0_checkExpr F cs x0 x1 = some cs9) : ocV l dC dI cB cI cJ cZ cS cO b K V fz yX0_checkExpr (wsOf yX0_checkExpr cX0_checkExpr 4 none) (3) [.ref (b + x0), .int x1] cs cs9 := by
  intro sz
  refine Met.ofW (cc := cX0_checkExpr) (maxL := 4) (ret := none) (by decide) rfl ?_
  intro p e s m args below meth c s₁ B hml hv
  obtain ⟨rfl, hsz, hP, hK, hD0, hZ⟩ := hv
  have hx := B.exec
  have hb := B.bytes
  have hr := B.returns
  have hts := atoms_spec (ws := (wsOf yX0_checkExpr cX0_checkExpr 4 none)) B.pre
  have hown : s.vm.findClass RX0 = some m.cls := findClass_of_methodNamed B.named
  have hlocks := B.notSynchronized
  subst hsz
  have hD := hD0.self (sz := s.heap.size)
  generalize hAe : va_A (cW cB cI cJ cZ cS cO b cs) s.heap.size = A at hD hZ ⊢
  have hA : ∀ q : Nat, s.heap.size ≤ q → A q := fun q h => by rw [← hAe]; exact Or.inr h
  have hS : va_S A s.heap s.heap [] := va_S.rf
  have hl := lv_entry ([.ref (b + x0), .int x1]) (n := 4) (Nat.le_of_ble_eq_true rfl)
  rw [lg_entry_eq]
  generalize (lg_sl ([.ref (b + x0), .int x1]) ++ List.replicate (4 - (lg_sl ([.ref (b + x0), .int x1])).length) Slot.unset).toArray = ls at hl ⊢
  have hl : lv_has ls 4 [(0, .ref (b + x0)), (1, .int x1)] := hl
  have B_129 : ∀ (cs1 : CS) , c_X0_checkExpr_b129 F cs1 = some cs9 → ∀ (H : Heap) (locs : List Loc) (ls : Array Slot), va_P (dC, dI) vwCl (cW cB cI cJ cZ cS cO b cs1) H → va_D A (cW cB cI cJ cZ cS cO b cs1) → va_S A s.heap H locs → lv_has ls 4 [] → W p l e (headSpec (wsOf yX0_checkExpr cX0_checkExpr 4 none) ({ frames := 3, cells := 0, slots := 0, locals := 60 * (3) } : Room)).room s m ([.ref (b + x0), .int x1] : List Value).toArray below meth c H locs 0 0 (MQ below (va_Qv (fun (_ : Unit) => True) (fun _ t_ => va_P (dC, dI) vwCl (cW cB cI cJ cZ cS cO b cs9) t_.heap ∧ va_D A (cW cB cI cJ cZ cS cO b cs9)) A) ([.ref (b + x0), .int x1] : List Value).toArray s 0 0 A) (F0 m 129 ls []) := by
    intro cs1  h H locs ls hP hD hS hl
    unfold c_X0_checkExpr_b129 at h
    have e1 := Option.some.inj h
    rw [e1] at hP hD
    exact W.vret hx hb hr (fun t_ ht hW => ⟨⟨(), rfl, trivial, by rw [ht]; exact hP, hD⟩, hS.F ht⟩) hS.2.2 dX0_checkExpr_129
  have L_24 : ∀ (lf_24 : Nat), ∀ (cs1 : CS) (u0 : Nat) (u1 : Int32) (u2 : Int32) (u3 : Int32), c_X0_checkExpr_L24 F lf_24 cs1 u0 u1 u2 u3 = some cs9 → ∀ (H : Heap) (locs : List Loc) (ls : Array Slot), va_P (dC, dI) vwCl (cW cB cI cJ cZ cS cO b cs1) H → va_D A (cW cB cI cJ cZ cS cO b cs1) → va_S A s.heap H locs → lv_has ls 4 [(0, .ref (b + u0)), (1, .int u1), (2, .int u2), (3, .int u3)] → W p l e (headSpec (wsOf yX0_checkExpr cX0_checkExpr 4 none) ({ frames := 3, cells := 0, slots := 0, locals := 60 * (3) } : Room)).room s m ([.ref (b + x0), .int x1] : List Value).toArray below meth c H locs 0 0 (MQ below (va_Qv (fun (_ : Unit) => True) (fun _ t_ => va_P (dC, dI) vwCl (cW cB cI cJ cZ cS cO b cs9) t_.heap ∧ va_D A (cW cB cI cJ cZ cS cO b cs9)) A) ([.ref (b + x0), .int x1] : List Value).toArray s 0 0 A) (F0 m 24 ls []) := by
    intro lf_24
    induction lf_24 with
    | zero => intro cs1 u0 u1 u2 u3 h; cases (show (none : Option CS) = _ from h)
    | succ lf_24 ih_24 =>
      have B_123 : ∀ (cs1 : CS) (u0 : Nat) (u1 : Int32) (u2 : Int32) (u3 : Int32), c_X0_checkExpr_b123 F (c_X0_checkExpr_L24 F lf_24) cs1 u0 u1 u2 u3 = some cs9 → ∀ (H : Heap) (locs : List Loc) (ls : Array Slot), va_P (dC, dI) vwCl (cW cB cI cJ cZ cS cO b cs1) H → va_D A (cW cB cI cJ cZ cS cO b cs1) → va_S A s.heap H locs → lv_has ls 4 [(0, .ref (b + u0)), (1, .int u1), (2, .int u2), (3, .int u3)] → W p l e (headSpec (wsOf yX0_checkExpr cX0_checkExpr 4 none) ({ frames := 3, cells := 0, slots := 0, locals := 60 * (3) } : Room)).room s m ([.ref (b + x0), .int x1] : List Value).toArray below meth c H locs 0 0 (MQ below (va_Qv (fun (_ : Unit) => True) (fun _ t_ => va_P (dC, dI) vwCl (cW cB cI cJ cZ cS cO b cs9) t_.heap ∧ va_D A (cW cB cI cJ cZ cS cO b cs9)) A) ([.ref (b + x0), .int x1] : List Value).toArray s 0 0 A) (F0 m 123 ls []) := by
        intro cs1 u0 u1 u2 u3 h H locs ls hP hD hS hl
        unfold c_X0_checkExpr_b123 at h
        refine lv_iinc (v := u3 + 1) (lv' := [(3, .int (u3 + 1)), (0, .ref (b + u0)), (1, .int u1), (2, .int u2)]) hx hb dX0_checkExpr_123 hl (k := 3) rfl rfl (by decide) rfl (fun ls hl => ?_)
        refine lv_goto (tgt := 24) hx hb dX0_checkExpr_126 (by decide) ?_
        exact ih_24 cs1 u0 u1 u2 (u3 + 1) h _ _ _ hP hD hS (lv_sub hl [1, 2, 3, 0] rfl)
      have B_106 : ∀ (cs1 : CS) (u0 : Nat) (u1 : Int32) (u2 : Int32) (u3 : Int32), c_X0_checkExpr_b106 F (c_X0_checkExpr_L24 F lf_24) cs1 u0 u1 u2 u3 = some cs9 → ∀ (H : Heap) (locs : List Loc) (ls : Array Slot), va_P (dC, dI) vwCl (cW cB cI cJ cZ cS cO b cs1) H → va_D A (cW cB cI cJ cZ cS cO b cs1) → va_S A s.heap H locs → lv_has ls 4 [(0, .ref (b + u0)), (1, .int u1), (2, .int u2), (3, .int u3)] → W p l e (headSpec (wsOf yX0_checkExpr cX0_checkExpr 4 none) ({ frames := 3, cells := 0, slots := 0, locals := 60 * (3) } : Room)).room s m ([.ref (b + x0), .int x1] : List Value).toArray below meth c H locs 0 0 (MQ below (va_Qv (fun (_ : Unit) => True) (fun _ t_ => va_P (dC, dI) vwCl (cW cB cI cJ cZ cS cO b cs9) t_.heap ∧ va_D A (cW cB cI cJ cZ cS cO b cs9)) A) ([.ref (b + x0), .int x1] : List Value).toArray s 0 0 A) (F0 m 106 ls []) := by
        intro cs1 u0 u1 u2 u3 h H locs ls hP hD hS hl
        unfold c_X0_checkExpr_b106 at h
        refine lv_aload_n hx hb dX0_checkExpr_106 rfl (lv_at hl 0 rfl) ?_
        refine lv_iload_n hx hb dX0_checkExpr_107 rfl (lv_at hl 3 rfl) ?_
        replace h := ob h; obtain ⟨w_2, hw_2, h⟩ := h
        replace h := ob h; obtain ⟨cs_1, hv_1, h⟩ := h
        refine ccV (As := [.int u3]) hx hb hml hts hown hK hP hD hS hA hZ (X := 1) (by decide) rfl (ckE_some hw_2) (sc_X0_findInSources l dC dI cB cI cJ cZ cS cO b K V fz F cs1 u0 u3 cs_1 hv_1) (cw_X0_X0_findInSources hts (fr := 2) (Nat.le_of_ble_eq_true rfl) (Nat.le_of_ble_eq_true rfl)) rfl hl.1 (Nat.le_of_ble_eq_true rfl) ⟨Nat.zero_le _, Nat.zero_le _⟩ dX0_checkExpr_108 (fun H locs hP hD hS => ?_)
        refine lv_goto (tgt := 123) hx hb dX0_checkExpr_111 (by decide) ?_
        exact B_123 cs_1 u0 u1 u2 u3 h _ _ _ hP hD hS (lv_sub hl [0, 1, 2, 3] rfl)
      have B_72 : ∀ (cs1 : CS) (u0 : Nat) (u1 : Int32) (u2 : Int32) (u3 : Int32), c_X0_checkExpr_b72 F (c_X0_checkExpr_L24 F lf_24) cs1 u0 u1 u2 u3 = some cs9 → ∀ (H : Heap) (locs : List Loc) (ls : Array Slot), va_P (dC, dI) vwCl (cW cB cI cJ cZ cS cO b cs1) H → va_D A (cW cB cI cJ cZ cS cO b cs1) → va_S A s.heap H locs → lv_has ls 4 [(0, .ref (b + u0)), (1, .int u1), (2, .int u2), (3, .int u3)] → W p l e (headSpec (wsOf yX0_checkExpr cX0_checkExpr 4 none) ({ frames := 3, cells := 0, slots := 0, locals := 60 * (3) } : Room)).room s m ([.ref (b + x0), .int x1] : List Value).toArray below meth c H locs 0 0 (MQ below (va_Qv (fun (_ : Unit) => True) (fun _ t_ => va_P (dC, dI) vwCl (cW cB cI cJ cZ cS cO b cs9) t_.heap ∧ va_D A (cW cB cI cJ cZ cS cO b cs9)) A) ([.ref (b + x0), .int x1] : List Value).toArray s 0 0 A) (F0 m 72 ls []) := by
        intro cs1 u0 u1 u2 u3 h H locs ls hP hD hS hl
        unfold c_X0_checkExpr_b72 at h
        refine lv_aload_n hx hb dX0_checkExpr_72 rfl (lv_at hl 0 rfl) ?_
        replace h := ob h; obtain ⟨v_3, hv_3, h⟩ := h
        refine fg_X0_25 hx hb hts hown hK hP hv_3 dX0_checkExpr_73 ?_
        replace h := ob h; obtain ⟨i_4, hi_4, h⟩ := h
        subst hi_4
        replace h := ob h; obtain ⟨v_5, hv_5, h⟩ := h
        refine fg_X0_278 hx hb hts hown hK hP hv_5 dX0_checkExpr_76 ?_
        refine lv_iload_n hx hb dX0_checkExpr_79 rfl (lv_at hl 3 rfl) ?_
        replace h := ob h; obtain ⟨v_6, hv_6, h⟩ := h
        refine ald0 hx hb hK hP rfl hv_6 dX0_checkExpr_80 ?_
        refine lv_bipush (v := 39) hx hb dX0_checkExpr_81 (by decide) ?_
        refine lv_icmp_eq (tgt := 94) hx hb dX0_checkExpr_83 (by decide) (fun c_7 => ?_) (fun c_7 => ?_)
        · skip
          replace h := (if_pos c_7).symm.trans h
          refine lv_aload_n hx hb dX0_checkExpr_94 rfl (lv_at hl 0 rfl) ?_
          replace h := ob h; obtain ⟨v_8, hv_8, h⟩ := h
          refine fg_X0_103 hx hb hts hown hK hP hv_8 dX0_checkExpr_95 ?_
          cases v_8 with
          | none =>
            replace h := oc_n.symm.trans h
            refine lv_ifnullN (tgt := 106) hx hb dX0_checkExpr_98 (by decide) ?_
            exact B_106 cs1 u0 u1 u2 u3 h _ _ _ hP hD hS (lv_sub hl [0, 1, 2, 3] rfl)
          | some i_9 =>
            replace h := oc_s.symm.trans h
            refine lv_ifnull hx hb dX0_checkExpr_98 ?_
            refine lv_iload_n hx hb dX0_checkExpr_101 rfl (lv_at hl 3 rfl) ?_
            refine lv_iload_n hx hb dX0_checkExpr_102 rfl (lv_at hl 2 rfl) ?_
            refine lv_icmp_ge (tgt := 114) hx hb dX0_checkExpr_103 (by decide) (fun c_10 => ?_) (fun c_10 => ?_)
            · skip
              replace h := (if_pos c_10).symm.trans h
              refine lv_aload_n hx hb dX0_checkExpr_114 rfl (lv_at hl 0 rfl) ?_
              refine lv_iload_n hx hb dX0_checkExpr_115 rfl (lv_at hl 3 rfl) ?_
              refine lv_aload_n hx hb dX0_checkExpr_116 rfl (lv_at hl 0 rfl) ?_
              replace h := ob h; obtain ⟨v_11, hv_11, h⟩ := h
              refine fg_X0_103 hx hb hts hown hK hP hv_11 dX0_checkExpr_117 ?_
              replace h := ob h; obtain ⟨i_12, hi_12, h⟩ := h
              subst hi_12
              replace h := ob h; obtain ⟨w_14, hw_14, h⟩ := h
              replace h := ob h; obtain ⟨cs_13, hv_13, h⟩ := h
              refine ccV (As := [.int u3, .ref (b + i_12)]) hx hb hml hts hown hK hP hD hS hA hZ (X := 1) (by decide) rfl (ckE_some hw_14) (sc_X0_findInNames l dC dI cB cI cJ cZ cS cO b K V fz F cs1 u0 u3 i_12 cs_13 hv_13) (cw_X0_X0_findInNames hts (fr := 2) (Nat.le_of_ble_eq_true rfl) (Nat.le_of_ble_eq_true rfl)) rfl hl.1 (Nat.le_of_ble_eq_true rfl) ⟨Nat.zero_le _, Nat.zero_le _⟩ dX0_checkExpr_120 (fun H locs hP hD hS => ?_)
              exact B_123 cs_13 u0 u1 u2 u3 h _ _ _ hP hD hS (lv_sub hl [0, 1, 2, 3] rfl)
            · skip
              replace h := (if_neg c_10).symm.trans h
              exact B_106 cs1 u0 u1 u2 u3 h _ _ _ hP hD hS (lv_sub hl [0, 1, 2, 3] rfl)
        · skip
          replace h := (if_neg c_7).symm.trans h
          refine lv_aload_n hx hb dX0_checkExpr_86 rfl (lv_at hl 0 rfl) ?_
          refine lv_iload_n hx hb dX0_checkExpr_87 rfl (lv_at hl 3 rfl) ?_
          replace h := ob h; obtain ⟨w_16, hw_16, h⟩ := h
          replace h := ob h; obtain ⟨cs_15, hv_15, h⟩ := h
          refine ccV (As := [.int u3]) hx hb hml hts hown hK hP hD hS hA hZ (X := 1) (by decide) rfl (ckE_some hw_16) (sc_X0_checkAct l dC dI cB cI cJ cZ cS cO b K V fz F cs1 u0 u3 cs_15 hv_15) (cw_X0_X0_checkAct hts (fr := 2) (Nat.le_of_ble_eq_true rfl) (Nat.le_of_ble_eq_true rfl)) rfl hl.1 (Nat.le_of_ble_eq_true rfl) ⟨Nat.zero_le _, Nat.zero_le _⟩ dX0_checkExpr_88 (fun H locs hP hD hS => ?_)
          refine lv_goto (tgt := 123) hx hb dX0_checkExpr_91 (by decide) ?_
          exact B_123 cs_15 u0 u1 u2 u3 h _ _ _ hP hD hS (lv_sub hl [0, 1, 2, 3] rfl)
      intro cs1 u0 u1 u2 u3 h H locs ls hP hD hS hl
      rw [c_X0_checkExpr_L24] at h
      refine lv_iload_n hx hb dX0_checkExpr_24 rfl (lv_at hl 3 rfl) ?_
      refine lv_iload_n hx hb dX0_checkExpr_25 rfl (lv_at hl 1 rfl) ?_
      refine lv_icmp_gt (tgt := 129) hx hb dX0_checkExpr_26 (by decide) (fun c_17 => ?_) (fun c_17 => ?_)
      · skip
        replace h := (if_pos c_17).symm.trans h
        exact B_129 cs1 h _ _ _ hP hD hS (lv_sub hl [] rfl)
      · skip
        replace h := (if_neg c_17).symm.trans h
        refine lv_aload_n hx hb dX0_checkExpr_29 rfl (lv_at hl 0 rfl) ?_
        replace h := ob h; obtain ⟨w_19, hw_19, h⟩ := h
        replace h := ob h; obtain ⟨v_18, hv_18, h⟩ := h
        refine ccI (As := []) hx hb hml hts hown hK hP hD hS hA hZ (X := 1) (by decide) rfl (ckE_some hw_19) (sc_X0_isFaulty l dC dI cB cI cJ cZ cS cO b K V fz F cs1 u0 v_18 hv_18) (cw_X0_X0_isFaulty hts (fr := 0) (Nat.le_of_ble_eq_true rfl) (Nat.le_of_ble_eq_true rfl)) rfl hl.1 (Nat.le_of_ble_eq_true rfl) ⟨Nat.zero_le _, Nat.zero_le _⟩ dX0_checkExpr_30 (fun H locs hP hD hS => ?_)
        refine lv_if_ne (tgt := 129) hx hb dX0_checkExpr_33 (by decide) (fun c_20 => ?_) (fun c_20 => ?_)
        · skip
          replace h := (if_neg c_20).symm.trans h
          exact B_129 cs1 h _ _ _ hP hD hS (lv_sub hl [] rfl)
        · skip
          replace h := (if_pos c_20).symm.trans h
          refine lv_aload_n hx hb dX0_checkExpr_36 rfl (lv_at hl 0 rfl) ?_
          replace h := ob h; obtain ⟨v_21, hv_21, h⟩ := h
          refine fg_X0_25 hx hb hts hown hK hP hv_21 dX0_checkExpr_37 ?_
          replace h := ob h; obtain ⟨i_22, hi_22, h⟩ := h
          subst hi_22
          replace h := ob h; obtain ⟨v_23, hv_23, h⟩ := h
          refine fg_X0_275 hx hb hts hown hK hP hv_23 dX0_checkExpr_40 ?_
          refine lv_iload_n hx hb dX0_checkExpr_43 rfl (lv_at hl 3 rfl) ?_
          replace h := ob h; obtain ⟨v_24, hv_24, h⟩ := h
          refine ald0 hx hb hK hP rfl hv_24 dX0_checkExpr_44 ?_
          refine lv_iload_n hx hb dX0_checkExpr_45 rfl (lv_at hl 3 rfl) ?_
          refine lv_icmp_le (tgt := 72) hx hb dX0_checkExpr_46 (by decide) (fun c_25 => ?_) (fun c_25 => ?_)
          · skip
            replace h := (if_pos c_25).symm.trans h
            exact B_72 cs1 u0 u1 u2 u3 h _ _ _ hP hD hS (lv_sub hl [0, 1, 2, 3] rfl)
          · skip
            replace h := (if_neg c_25).symm.trans h
            refine lv_aload_n hx hb dX0_checkExpr_49 rfl (lv_at hl 0 rfl) ?_
            replace h := ob h; obtain ⟨v_26, hv_26, h⟩ := h
            refine fg_X0_25 hx hb hts hown hK hP hv_26 dX0_checkExpr_50 ?_
            replace h := ob h; obtain ⟨i_27, hi_27, h⟩ := h
            subst hi_27
            replace h := ob h; obtain ⟨v_28, hv_28, h⟩ := h
            refine fg_X0_275 hx hb hts hown hK hP hv_28 dX0_checkExpr_53 ?_
            refine lv_iload_n hx hb dX0_checkExpr_56 rfl (lv_at hl 3 rfl) ?_
            replace h := ob h; obtain ⟨v_29, hv_29, h⟩ := h
            refine ald0 hx hb hK hP rfl hv_29 dX0_checkExpr_57 ?_
            refine lv_iload_n hx hb dX0_checkExpr_58 rfl (lv_at hl 1 rfl) ?_
            refine lv_icmp_gt (tgt := 72) hx hb dX0_checkExpr_59 (by decide) (fun c_30 => ?_) (fun c_30 => ?_)
            · skip
              replace h := (if_pos c_30).symm.trans h
              exact B_72 cs1 u0 u1 u2 u3 h _ _ _ hP hD hS (lv_sub hl [0, 1, 2, 3] rfl)
            · skip
              replace h := (if_neg c_30).symm.trans h
              refine lv_aload_n hx hb dX0_checkExpr_62 rfl (lv_at hl 0 rfl) ?_
              replace h := ob h; obtain ⟨v_31, hv_31, h⟩ := h
              refine fg_X0_25 hx hb hts hown hK hP hv_31 dX0_checkExpr_63 ?_
              replace h := ob h; obtain ⟨i_32, hi_32, h⟩ := h
              subst hi_32
              replace h := ob h; obtain ⟨v_33, hv_33, h⟩ := h
              refine fg_X0_275 hx hb hts hown hK hP hv_33 dX0_checkExpr_66 ?_
              refine lv_iload_n hx hb dX0_checkExpr_69 rfl (lv_at hl 3 rfl) ?_
              replace h := ob h; obtain ⟨v_34, hv_34, h⟩ := h
              refine ald0 hx hb hK hP rfl hv_34 dX0_checkExpr_70 ?_
              refine lv_istore_n (lv' := [(2, .int v_34), (0, .ref (b + u0)), (1, .int u1), (3, .int u3)]) hx hb dX0_checkExpr_71 rfl hl (by decide) rfl (fun ls hl => ?_)
              exact B_72 cs1 u0 u1 v_34 u3 h _ _ _ hP hD hS (lv_sub hl [1, 2, 0, 3] rfl)
  have h := hf
  unfold c_X0_checkExpr at h
  refine lv_aload_n hx hb dX0_checkExpr_0 rfl (lv_at hl 0 rfl) ?_
  replace h := ob h; obtain ⟨v_35, hv_35, h⟩ := h
  refine fg_X0_25 hx hb hts hown hK hP hv_35 dX0_checkExpr_1 ?_
  refine lv_iload_n hx hb dX0_checkExpr_4 rfl (lv_at hl 1 rfl) ?_
  replace h := ob h; obtain ⟨i_37, hi_37, h⟩ := h
  subst hi_37
  replace h := ob h; obtain ⟨w_38, hw_38, h⟩ := h
  replace h := ob h; obtain ⟨v_36, hv_36, h⟩ := h
  refine ccI (As := [.int x1]) hx hb hml hts hown hK hP hD hS hA hZ (X := 2) (by decide) rfl (ckE_some hw_38) (sc_X1_has l dC dI cB cI cJ cZ cS cO b K V fz F cs i_37 x1 v_36 hv_36) (cw_X0_X1_has hts (fr := 0) (Nat.le_of_ble_eq_true rfl) (Nat.le_of_ble_eq_true rfl)) rfl hl.1 (Nat.le_of_ble_eq_true rfl) ⟨Nat.zero_le _, Nat.zero_le _⟩ dX0_checkExpr_5 (fun H locs hP hD hS => ?_)
  refine lv_if_ne (tgt := 12) hx hb dX0_checkExpr_8 (by decide) (fun c_39 => ?_) (fun c_39 => ?_)
  · skip
    replace h := (if_neg c_39).symm.trans h
    refine lv_iconst (v := (-1)) hx hb dX0_checkExpr_12 (by decide) ?_
    refine lv_istore_n (lv' := [(2, .int (-1)), (0, .ref (b + x0)), (1, .int x1)]) hx hb dX0_checkExpr_13 rfl hl (by decide) rfl (fun ls hl => ?_)
    refine lv_aload_n hx hb dX0_checkExpr_14 rfl (lv_at hl 1 rfl) ?_
    replace h := ob h; obtain ⟨v_40, hv_40, h⟩ := h
    refine fg_X0_25 hx hb hts hown hK hP hv_40 dX0_checkExpr_15 ?_
    replace h := ob h; obtain ⟨i_41, hi_41, h⟩ := h
    subst hi_41
    replace h := ob h; obtain ⟨v_42, hv_42, h⟩ := h
    refine fg_X0_272 hx hb hts hown hK hP hv_42 dX0_checkExpr_18 ?_
    refine lv_iload_n hx hb dX0_checkExpr_21 rfl (lv_at hl 2 rfl) ?_
    replace h := ob h; obtain ⟨v_43, hv_43, h⟩ := h
    refine ald0 hx hb hK hP rfl hv_43 dX0_checkExpr_22 ?_
    refine lv_istore_n (lv' := [(3, .int v_43), (2, .int (-1)), (0, .ref (b + x0)), (1, .int x1)]) hx hb dX0_checkExpr_23 rfl hl (by decide) rfl (fun ls hl => ?_)
    exact L_24 F cs x0 x1 (-1) v_43 h _ _ _ hP hD hS (lv_sub hl [2, 3, 1, 0] rfl)
  · skip
    replace h := (if_pos c_39).symm.trans h
    have e1 := Option.some.inj h
    rw [e1] at hP hD
    exact W.vret hx hb hr (fun t_ ht hW => ⟨⟨(), rfl, trivial, by rw [ht]; exact hP, hD⟩, hS.F ht⟩) hS.2.2 dX0_checkExpr_11
theorem dX0_typeOf_0 : decode cX0_typeOf 0 = .ok (.aload_n 0, 1) := by decide +kernel
theorem dX0_typeOf_1 : decode cX0_typeOf 1 = .ok (.getfield 25, 3) := by decide +kernel
theorem dX0_typeOf_4 : decode cX0_typeOf 4 = .ok (.iload_n 1, 1) := by decide +kernel
theorem dX0_typeOf_5 : decode cX0_typeOf 5 = .ok (.invokevirtual 243, 3) := by decide +kernel
theorem dX0_typeOf_8 : decode cX0_typeOf 8 = .ok (.ifCond .eq 15, 3) := by decide +kernel
theorem dX0_typeOf_11 : decode cX0_typeOf 11 = .ok (.aload_n 0, 1) := by decide +kernel
theorem dX0_typeOf_12 : decode cX0_typeOf 12 = .ok (.getfield 25, 3) := by decide +kernel
theorem dX0_typeOf_15 : decode cX0_typeOf 15 = .ok (.getfield 271, 3) := by decide +kernel
theorem dX0_typeOf_18 : decode cX0_typeOf 18 = .ok (.iload_n 1, 1) := by decide +kernel
theorem dX0_typeOf_19 : decode cX0_typeOf 19 = .ok (.iaload, 1) := by decide +kernel
theorem dX0_typeOf_20 : decode cX0_typeOf 20 = .ok (.goto 4, 3) := by decide +kernel
theorem dX0_typeOf_23 : decode cX0_typeOf 23 = .ok (.iconst 3, 1) := by decide +kernel
theorem dX0_typeOf_24 : decode cX0_typeOf 24 = .ok (.ireturn, 1) := by decide +kernel
def c_X0_typeOf_b24 (F : Nat) (cs : CS) (y0 : Int32) : Option Int32 := some y0
def c_X0_typeOf (F : Nat) (cs : CS) (x0 : Nat) (x1 : Int32) : Option Int32 := Option.bind (gR cs 1 34 x0) fun v_1 => Option.bind (v_1) fun i_3 => Option.bind (ckE cs 2 i_3) fun _ => Option.bind (c_X1_has F cs i_3 x1) fun v_2 => if v_2 = 0 then (c_X0_typeOf_b24 F cs 3) else (Option.bind (gR cs 1 34 x0) fun v_6 => Option.bind (v_6) fun i_7 => Option.bind (gA cs 2 73 i_7) fun v_8 => Option.bind (rA cs 73 i_7 v_8 x1) fun v_9 => c_X0_typeOf_b24 F cs v_9)
theorem cw_X0_X0_typeOf {R : Room} {s : State} {args : Array Value} {y0 : MethodName} {c0 : ByteArray} {n0 : Nat} {r0 : Option FieldType} (hts : ∀ w ∈ wsOf y0 c0 n0 r0, w.before args s = true) {fr : Nat} (h1 : fr + 1 ≤ R.frames) (h2 : 8 + (2 + 11) + 60 * fr ≤ R.locals) : CallW R s args RX0 RX0 255 yX0_typeOf cX0_typeOf 2 (some .int) (wsOf yX0_typeOf cX0_typeOf 2 (some .int)) ({ frames := fr, cells := 0, slots := 0, locals := 60 * fr } : Room) 0 0 1 := cwV 1 hts (gd_all (in_V kw_1276 kw_1278 kw_60 kw_204 kc_X0_typeOf)) rfl rfl rfl (by decide +kernel) ⟨h1, h2⟩
set_option maxHeartbeats 4000000 in
set_option maxRecDepth 100000 in
theorem sc_X0_typeOf (l : Launch) (dC : Nat → ClassId) (dI : Nat → Nat → Nat) (cB cI cJ cZ cS cO : ClassId) (b : Nat) (K V : Nat → Nat) (fz : Value) (F : Nat) (cs : CS) (x0 : Nat) (x1 : Int32) (r9 : Int32) (hf : c_X0_typeOf F cs x0 x1 = some r9) : ocI l dC dI cB cI cJ cZ cS cO b K V fz yX0_typeOf (wsOf yX0_typeOf cX0_typeOf 2 (some .int)) (1) [.ref (b + x0), .int x1] cs cs r9 := by
  intro sz
  refine Met.ofW (cc := cX0_typeOf) (maxL := 2) (ret := (some .int)) (by decide) rfl ?_
  intro p e s m args below meth c s₁ B hml hv
  obtain ⟨rfl, hsz, hP, hK, hD0, hZ⟩ := hv
  have hx := B.exec
  have hb := B.bytes
  have hr := B.returns
  have hts := atoms_spec (ws := (wsOf yX0_typeOf cX0_typeOf 2 (some .int))) B.pre
  have hown : s.vm.findClass RX0 = some m.cls := findClass_of_methodNamed B.named
  have hlocks := B.notSynchronized
  subst hsz
  have hD := hD0.self (sz := s.heap.size)
  generalize hAe : va_A (cW cB cI cJ cZ cS cO b cs) s.heap.size = A at hD hZ ⊢
  have hA : ∀ q : Nat, s.heap.size ≤ q → A q := fun q h => by rw [← hAe]; exact Or.inr h
  have hS : va_S A s.heap s.heap [] := va_S.rf
  have hl := lv_entry ([.ref (b + x0), .int x1]) (n := 2) (Nat.le_of_ble_eq_true rfl)
  rw [lg_entry_eq]
  generalize (lg_sl ([.ref (b + x0), .int x1]) ++ List.replicate (2 - (lg_sl ([.ref (b + x0), .int x1])).length) Slot.unset).toArray = ls at hl ⊢
  have hl : lv_has ls 2 [(0, .ref (b + x0)), (1, .int x1)] := hl
  have B_24 : ∀ (y0 : Int32), c_X0_typeOf_b24 F cs y0 = some r9 → ∀ (H : Heap) (locs : List Loc) (ls : Array Slot), va_P (dC, dI) vwCl (cW cB cI cJ cZ cS cO b cs) H → va_D A (cW cB cI cJ cZ cS cO b cs) → va_S A s.heap H locs → lv_has ls 2 [] → W p l e (headSpec (wsOf yX0_typeOf cX0_typeOf 2 (some .int)) ({ frames := 1, cells := 0, slots := 0, locals := 60 * (1) } : Room)).room s m ([.ref (b + x0), .int x1] : List Value).toArray below meth c H locs 0 0 (MQ below (va_Qi (fun (x : Int32) (_ : Unit) => x = r9) (fun _ t_ => va_P (dC, dI) vwCl (cW cB cI cJ cZ cS cO b cs) t_.heap ∧ va_D A (cW cB cI cJ cZ cS cO b cs)) A) ([.ref (b + x0), .int x1] : List Value).toArray s 0 0 A) (F0 m 24 ls [.int y0]) := by
    intro y0 h H locs ls hP hD hS hl
    unfold c_X0_typeOf_b24 at h
    have e2 := Option.some.inj h
    exact W.iret (v := y0) hx hb hr (fun t_ ht hW => ⟨⟨y0, (), rfl, e2, by rw [ht]; exact hP, hD⟩, hS.F ht⟩) hS.2.2 dX0_typeOf_24
  have h := hf
  unfold c_X0_typeOf at h
  refine lv_aload_n hx hb dX0_typeOf_0 rfl (lv_at hl 0 rfl) ?_
  replace h := ob h; obtain ⟨v_1, hv_1, h⟩ := h
  refine fg_X0_25 hx hb hts hown hK hP hv_1 dX0_typeOf_1 ?_
  refine lv_iload_n hx hb dX0_typeOf_4 rfl (lv_at hl 1 rfl) ?_
  replace h := ob h; obtain ⟨i_3, hi_3, h⟩ := h
  subst hi_3
  replace h := ob h; obtain ⟨w_4, hw_4, h⟩ := h
  replace h := ob h; obtain ⟨v_2, hv_2, h⟩ := h
  refine ccI (As := [.int x1]) hx hb hml hts hown hK hP hD hS hA hZ (X := 2) (by decide) rfl (ckE_some hw_4) (sc_X1_has l dC dI cB cI cJ cZ cS cO b K V fz F cs i_3 x1 v_2 hv_2) (cw_X0_X1_has hts (fr := 0) (Nat.le_of_ble_eq_true rfl) (Nat.le_of_ble_eq_true rfl)) rfl hl.1 (Nat.le_of_ble_eq_true rfl) ⟨Nat.zero_le _, Nat.zero_le _⟩ dX0_typeOf_5 (fun H locs hP hD hS => ?_)
  refine lv_if_eq (tgt := 23) hx hb dX0_typeOf_8 (by decide) (fun c_5 => ?_) (fun c_5 => ?_)
  · skip
    replace h := (if_pos c_5).symm.trans h
    refine lv_iconst (v := 3) hx hb dX0_typeOf_23 (by decide) ?_
    exact B_24 3 h _ _ _ hP hD hS (lv_sub hl [] rfl)
  · skip
    replace h := (if_neg c_5).symm.trans h
    refine lv_aload_n hx hb dX0_typeOf_11 rfl (lv_at hl 0 rfl) ?_
    replace h := ob h; obtain ⟨v_6, hv_6, h⟩ := h
    refine fg_X0_25 hx hb hts hown hK hP hv_6 dX0_typeOf_12 ?_
    replace h := ob h; obtain ⟨i_7, hi_7, h⟩ := h
    subst hi_7
    replace h := ob h; obtain ⟨v_8, hv_8, h⟩ := h
    refine fg_X0_271 hx hb hts hown hK hP hv_8 dX0_typeOf_15 ?_
    refine lv_iload_n hx hb dX0_typeOf_18 rfl (lv_at hl 1 rfl) ?_
    replace h := ob h; obtain ⟨v_9, hv_9, h⟩ := h
    refine ald0 hx hb hK hP rfl hv_9 dX0_typeOf_19 ?_
    refine lv_goto (tgt := 24) hx hb dX0_typeOf_20 (by decide) ?_
    exact B_24 v_9 h _ _ _ hP hD hS (lv_sub hl [] rfl)
theorem dX0_checkTruth_0 : decode cX0_checkTruth 0 = .ok (.aload_n 0, 1) := by decide +kernel
theorem dX0_checkTruth_1 : decode cX0_checkTruth 1 = .ok (.iload_n 1, 1) := by decide +kernel
theorem dX0_checkTruth_2 : decode cX0_checkTruth 2 = .ok (.invokevirtual 252, 3) := by decide +kernel
theorem dX0_checkTruth_5 : decode cX0_checkTruth 5 = .ok (.aload_n 0, 1) := by decide +kernel
theorem dX0_checkTruth_6 : decode cX0_checkTruth 6 = .ok (.getfield 25, 3) := by decide +kernel
theorem dX0_checkTruth_9 : decode cX0_checkTruth 9 = .ok (.iload_n 1, 1) := by decide +kernel
theorem dX0_checkTruth_10 : decode cX0_checkTruth 10 = .ok (.invokevirtual 243, 3) := by decide +kernel
theorem dX0_checkTruth_13 : decode cX0_checkTruth 13 = .ok (.ifCond .eq 30, 3) := by decide +kernel
theorem dX0_checkTruth_16 : decode cX0_checkTruth 16 = .ok (.aload_n 0, 1) := by decide +kernel
theorem dX0_checkTruth_17 : decode cX0_checkTruth 17 = .ok (.iload_n 1, 1) := by decide +kernel
theorem dX0_checkTruth_18 : decode cX0_checkTruth 18 = .ok (.invokevirtual 255, 3) := by decide +kernel
theorem dX0_checkTruth_21 : decode cX0_checkTruth 21 = .ok (.iconst 2, 1) := by decide +kernel
theorem dX0_checkTruth_22 : decode cX0_checkTruth 22 = .ok (.iand, 1) := by decide +kernel
theorem dX0_checkTruth_23 : decode cX0_checkTruth 23 = .ok (.ifCond .ne 20, 3) := by decide +kernel
theorem dX0_checkTruth_26 : decode cX0_checkTruth 26 = .ok (.aload_n 0, 1) := by decide +kernel
theorem dX0_checkTruth_27 : decode cX0_checkTruth 27 = .ok (.getfield 9, 3) := by decide +kernel
theorem dX0_checkTruth_30 : decode cX0_checkTruth 30 = .ok (.iconst 4, 1) := by decide +kernel
theorem dX0_checkTruth_31 : decode cX0_checkTruth 31 = .ok (.aload_n 0, 1) := by decide +kernel
theorem dX0_checkTruth_32 : decode cX0_checkTruth 32 = .ok (.getfield 25, 3) := by decide +kernel
theorem dX0_checkTruth_35 : decode cX0_checkTruth 35 = .ok (.getfield 246, 3) := by decide +kernel
theorem dX0_checkTruth_38 : decode cX0_checkTruth 38 = .ok (.iload_n 1, 1) := by decide +kernel
theorem dX0_checkTruth_39 : decode cX0_checkTruth 39 = .ok (.iaload, 1) := by decide +kernel
theorem dX0_checkTruth_40 : decode cX0_checkTruth 40 = .ok (.invokevirtual 76, 3) := by decide +kernel
theorem dX0_checkTruth_43 : decode cX0_checkTruth 43 = .ok (.return_, 1) := by decide +kernel
def c_X0_checkTruth_b43 (F : Nat) (cs1 : CS) : Option CS := some cs1
def c_X0_checkTruth (F : Nat) (cs : CS) (x0 : Nat) (x1 : Int32) : Option CS := Option.bind (ckE cs 1 x0) fun _ => Option.bind (c_X0_checkExpr F cs x0 x1) fun cs_1 => Option.bind (gR cs_1 1 34 x0) fun v_3 => Option.bind (v_3) fun i_5 => Option.bind (ckE cs_1 2 i_5) fun _ => Option.bind (c_X1_has F cs_1 i_5 x1) fun v_4 => if v_4 = 0 then (c_X0_checkTruth_b43 F cs_1) else (Option.bind (ckE cs_1 1 x0) fun _ => Option.bind (c_X0_typeOf F cs_1 x0 x1) fun v_8 => if (v_8 &&& 2) = 0 then (Option.bind (gR cs_1 1 32 x0) fun v_11 => Option.bind (gR cs_1 1 34 x0) fun v_12 => Option.bind (v_12) fun i_13 => Option.bind (gA cs_1 2 66 i_13) fun v_14 => Option.bind (rA cs_1 66 i_13 v_14 x1) fun v_15 => Option.bind (v_11) fun i_17 => Option.bind (ckE cs_1 10 i_17) fun _ => Option.bind (c_X9_refuse F cs_1 i_17 4 v_15) fun cs_16 => c_X0_checkTruth_b43 F cs_16) else (c_X0_checkTruth_b43 F cs_1))
theorem cw_X0_X0_checkTruth {R : Room} {s : State} {args : Array Value} {y0 : MethodName} {c0 : ByteArray} {n0 : Nat} {r0 : Option FieldType} (hts : ∀ w ∈ wsOf y0 c0 n0 r0, w.before args s = true) {fr : Nat} (h1 : fr + 1 ≤ R.frames) (h2 : 8 + (2 + 11) + 60 * fr ≤ R.locals) : CallW R s args RX0 RX0 131 yX0_checkTruth cX0_checkTruth 2 none (wsOf yX0_checkTruth cX0_checkTruth 2 none) ({ frames := fr, cells := 0, slots := 0, locals := 60 * fr } : Room) 0 0 1 := cwV 1 hts (gd_all (in_V kw_1241 kw_1243 kw_52 kw_204 kc_X0_checkTruth)) rfl rfl rfl (by decide +kernel) ⟨h1, h2⟩
set_option maxHeartbeats 4000000 in
set_option maxRecDepth 100000 in
theorem sc_X0_checkTruth (l : Launch) (dC : Nat → ClassId) (dI : Nat → Nat → Nat) (cB cI cJ cZ cS cO : ClassId) (b : Nat) (K V : Nat → Nat) (fz : Value) (F : Nat) (cs : CS) (x0 : Nat) (x1 : Int32) (cs9 : CS) (hf : c_X0_checkTruth F cs x0 x1 = some cs9) : ocV l dC dI cB cI cJ cZ cS cO b K V fz yX0_checkTruth (wsOf yX0_checkTruth cX0_checkTruth 2 none) (4) [.ref (b + x0), .int x1] cs cs9 := by
  intro sz
  refine Met.ofW (cc := cX0_checkTruth) (maxL := 2) (ret := none) (by decide) rfl ?_
  intro p e s m args below meth c s₁ B hml hv
  obtain ⟨rfl, hsz, hP, hK, hD0, hZ⟩ := hv
  have hx := B.exec
  have hb := B.bytes
  have hr := B.returns
  have hts := atoms_spec (ws := (wsOf yX0_checkTruth cX0_checkTruth 2 none)) B.pre
  have hown : s.vm.findClass RX0 = some m.cls := findClass_of_methodNamed B.named
  have hlocks := B.notSynchronized
  subst hsz
  have hD := hD0.self (sz := s.heap.size)
  generalize hAe : va_A (cW cB cI cJ cZ cS cO b cs) s.heap.size = A at hD hZ ⊢
  have hA : ∀ q : Nat, s.heap.size ≤ q → A q := fun q h => by rw [← hAe]; exact Or.inr h
  have hS : va_S A s.heap s.heap [] := va_S.rf
  have hl := lv_entry ([.ref (b + x0), .int x1]) (n := 2) (Nat.le_of_ble_eq_true rfl)
  rw [lg_entry_eq]
  generalize (lg_sl ([.ref (b + x0), .int x1]) ++ List.replicate (2 - (lg_sl ([.ref (b + x0), .int x1])).length) Slot.unset).toArray = ls at hl ⊢
  have hl : lv_has ls 2 [(0, .ref (b + x0)), (1, .int x1)] := hl
  have B_43 : ∀ (cs1 : CS) , c_X0_checkTruth_b43 F cs1 = some cs9 → ∀ (H : Heap) (locs : List Loc) (ls : Array Slot), va_P (dC, dI) vwCl (cW cB cI cJ cZ cS cO b cs1) H → va_D A (cW cB cI cJ cZ cS cO b cs1) → va_S A s.heap H locs → lv_has ls 2 [] → W p l e (headSpec (wsOf yX0_checkTruth cX0_checkTruth 2 none) ({ frames := 4, cells := 0, slots := 0, locals := 60 * (4) } : Room)).room s m ([.ref (b + x0), .int x1] : List Value).toArray below meth c H locs 0 0 (MQ below (va_Qv (fun (_ : Unit) => True) (fun _ t_ => va_P (dC, dI) vwCl (cW cB cI cJ cZ cS cO b cs9) t_.heap ∧ va_D A (cW cB cI cJ cZ cS cO b cs9)) A) ([.ref (b + x0), .int x1] : List Value).toArray s 0 0 A) (F0 m 43 ls []) := by
    intro cs1  h H locs ls hP hD hS hl
    unfold c_X0_checkTruth_b43 at h
    have e1 := Option.some.inj h
    rw [e1] at hP hD
    exact W.vret hx hb hr (fun t_ ht hW => ⟨⟨(), rfl, trivial, by rw [ht]; exact hP, hD⟩, hS.F ht⟩) hS.2.2 dX0_checkTruth_43
  have h := hf
  unfold c_X0_checkTruth at h
  refine lv_aload_n hx hb dX0_checkTruth_0 rfl (lv_at hl 0 rfl) ?_
  refine lv_iload_n hx hb dX0_checkTruth_1 rfl (lv_at hl 1 rfl) ?_
  replace h := ob h; obtain ⟨w_2, hw_2, h⟩ := h
  replace h := ob h; obtain ⟨cs_1, hv_1, h⟩ := h
  refine ccV (As := [.int x1]) hx hb hml hts hown hK hP hD hS hA hZ (X := 1) (by decide) rfl (ckE_some hw_2) (sc_X0_checkExpr l dC dI cB cI cJ cZ cS cO b K V fz F cs x0 x1 cs_1 hv_1) (cw_X0_X0_checkExpr hts (fr := 3) (Nat.le_of_ble_eq_true rfl) (Nat.le_of_ble_eq_true rfl)) rfl hl.1 (Nat.le_of_ble_eq_true rfl) ⟨Nat.zero_le _, Nat.zero_le _⟩ dX0_checkTruth_2 (fun H locs hP hD hS => ?_)
  refine lv_aload_n hx hb dX0_checkTruth_5 rfl (lv_at hl 0 rfl) ?_
  replace h := ob h; obtain ⟨v_3, hv_3, h⟩ := h
  refine fg_X0_25 hx hb hts hown hK hP hv_3 dX0_checkTruth_6 ?_
  refine lv_iload_n hx hb dX0_checkTruth_9 rfl (lv_at hl 1 rfl) ?_
  replace h := ob h; obtain ⟨i_5, hi_5, h⟩ := h
  subst hi_5
  replace h := ob h; obtain ⟨w_6, hw_6, h⟩ := h
  replace h := ob h; obtain ⟨v_4, hv_4, h⟩ := h
  refine ccI (As := [.int x1]) hx hb hml hts hown hK hP hD hS hA hZ (X := 2) (by decide) rfl (ckE_some hw_6) (sc_X1_has l dC dI cB cI cJ cZ cS cO b K V fz F cs_1 i_5 x1 v_4 hv_4) (cw_X0_X1_has hts (fr := 0) (Nat.le_of_ble_eq_true rfl) (Nat.le_of_ble_eq_true rfl)) rfl hl.1 (Nat.le_of_ble_eq_true rfl) ⟨Nat.zero_le _, Nat.zero_le _⟩ dX0_checkTruth_10 (fun H locs hP hD hS => ?_)
  refine lv_if_eq (tgt := 43) hx hb dX0_checkTruth_13 (by decide) (fun c_7 => ?_) (fun c_7 => ?_)
  · skip
    replace h := (if_pos c_7).symm.trans h
    exact B_43 cs_1 h _ _ _ hP hD hS (lv_sub hl [] rfl)
  · skip
    replace h := (if_neg c_7).symm.trans h
    refine lv_aload_n hx hb dX0_checkTruth_16 rfl (lv_at hl 0 rfl) ?_
    refine lv_iload_n hx hb dX0_checkTruth_17 rfl (lv_at hl 1 rfl) ?_
    replace h := ob h; obtain ⟨w_9, hw_9, h⟩ := h
    replace h := ob h; obtain ⟨v_8, hv_8, h⟩ := h
    refine ccI (As := [.int x1]) hx hb hml hts hown hK hP hD hS hA hZ (X := 1) (by decide) rfl (ckE_some hw_9) (sc_X0_typeOf l dC dI cB cI cJ cZ cS cO b K V fz F cs_1 x0 x1 v_8 hv_8) (cw_X0_X0_typeOf hts (fr := 1) (Nat.le_of_ble_eq_true rfl) (Nat.le_of_ble_eq_true rfl)) rfl hl.1 (Nat.le_of_ble_eq_true rfl) ⟨Nat.zero_le _, Nat.zero_le _⟩ dX0_checkTruth_18 (fun H locs hP hD hS => ?_)
    refine lv_iconst (v := 2) hx hb dX0_checkTruth_21 (by decide) ?_
    refine lv_iand hx hb dX0_checkTruth_22 ?_
    refine lv_if_ne (tgt := 43) hx hb dX0_checkTruth_23 (by decide) (fun c_10 => ?_) (fun c_10 => ?_)
    · skip
      replace h := (if_neg c_10).symm.trans h
      exact B_43 cs_1 h _ _ _ hP hD hS (lv_sub hl [] rfl)
    · skip
      replace h := (if_pos c_10).symm.trans h
      refine lv_aload_n hx hb dX0_checkTruth_26 rfl (lv_at hl 0 rfl) ?_
      replace h := ob h; obtain ⟨v_11, hv_11, h⟩ := h
      refine fg_X0_9 hx hb hts hown hK hP hv_11 dX0_checkTruth_27 ?_
      refine lv_iconst (v := 4) hx hb dX0_checkTruth_30 (by decide) ?_
      refine lv_aload_n hx hb dX0_checkTruth_31 rfl (lv_at hl 0 rfl) ?_
      replace h := ob h; obtain ⟨v_12, hv_12, h⟩ := h
      refine fg_X0_25 hx hb hts hown hK hP hv_12 dX0_checkTruth_32 ?_
      replace h := ob h; obtain ⟨i_13, hi_13, h⟩ := h
      subst hi_13
      replace h := ob h; obtain ⟨v_14, hv_14, h⟩ := h
      refine fg_X0_246 hx hb hts hown hK hP hv_14 dX0_checkTruth_35 ?_
      refine lv_iload_n hx hb dX0_checkTruth_38 rfl (lv_at hl 1 rfl) ?_
      replace h := ob h; obtain ⟨v_15, hv_15, h⟩ := h
      refine ald0 hx hb hK hP rfl hv_15 dX0_checkTruth_39 ?_
      replace h := ob h; obtain ⟨i_17, hi_17, h⟩ := h
      subst hi_17
      replace h := ob h; obtain ⟨w_18, hw_18, h⟩ := h
      replace h := ob h; obtain ⟨cs_16, hv_16, h⟩ := h
      refine ccV (As := [.int 4, .int v_15]) hx hb hml hts hown hK hP hD hS hA hZ (X := 10) (by decide) rfl (ckE_some hw_18) (sc_X9_refuse l dC dI cB cI cJ cZ cS cO b K V fz F cs_1 i_17 4 v_15 cs_16 hv_16) (cw_X0_X9_refuse hts (fr := 0) (Nat.le_of_ble_eq_true rfl) (Nat.le_of_ble_eq_true rfl)) rfl hl.1 (Nat.le_of_ble_eq_true rfl) ⟨Nat.zero_le _, Nat.zero_le _⟩ dX0_checkTruth_40 (fun H locs hP hD hS => ?_)
      exact B_43 cs_16 h _ _ _ hP hD hS (lv_sub hl [] rfl)
theorem dX0_checkGroups_0 : decode cX0_checkGroups 0 = .ok (.aload_n 1, 1) := by decide +kernel
theorem dX0_checkGroups_1 : decode cX0_checkGroups 1 = .ok (.getfield 141, 3) := by decide +kernel
theorem dX0_checkGroups_4 : decode cX0_checkGroups 4 = .ok (.astore_n 2, 1) := by decide +kernel
theorem dX0_checkGroups_5 : decode cX0_checkGroups 5 = .ok (.aload_n 1, 1) := by decide +kernel
theorem dX0_checkGroups_6 : decode cX0_checkGroups 6 = .ok (.getfield 231, 3) := by decide +kernel
theorem dX0_checkGroups_9 : decode cX0_checkGroups 9 = .ok (.ifCond .eq 18, 3) := by decide +kernel
theorem dX0_checkGroups_12 : decode cX0_checkGroups 12 = .ok (.aload_n 0, 1) := by decide +kernel
theorem dX0_checkGroups_13 : decode cX0_checkGroups 13 = .ok (.aload_n 1, 1) := by decide +kernel
theorem dX0_checkGroups_14 : decode cX0_checkGroups 14 = .ok (.getfield 60, 3) := by decide +kernel
theorem dX0_checkGroups_17 : decode cX0_checkGroups 17 = .ok (.aload_n 1, 1) := by decide +kernel
theorem dX0_checkGroups_18 : decode cX0_checkGroups 18 = .ok (.getfield 234, 3) := by decide +kernel
theorem dX0_checkGroups_21 : decode cX0_checkGroups 21 = .ok (.invokevirtual 86, 3) := by decide +kernel
theorem dX0_checkGroups_24 : decode cX0_checkGroups 24 = .ok (.goto 48, 3) := by decide +kernel
theorem dX0_checkGroups_27 : decode cX0_checkGroups 27 = .ok (.aload_n 1, 1) := by decide +kernel
theorem dX0_checkGroups_28 : decode cX0_checkGroups 28 = .ok (.getfield 237, 3) := by decide +kernel
theorem dX0_checkGroups_31 : decode cX0_checkGroups 31 = .ok (.ifCond .le 41, 3) := by decide +kernel
theorem dX0_checkGroups_34 : decode cX0_checkGroups 34 = .ok (.aload_n 0, 1) := by decide +kernel
theorem dX0_checkGroups_35 : decode cX0_checkGroups 35 = .ok (.getfield 25, 3) := by decide +kernel
theorem dX0_checkGroups_38 : decode cX0_checkGroups 38 = .ok (.aload_n 1, 1) := by decide +kernel
theorem dX0_checkGroups_39 : decode cX0_checkGroups 39 = .ok (.getfield 240, 3) := by decide +kernel
theorem dX0_checkGroups_42 : decode cX0_checkGroups 42 = .ok (.iconst 0, 1) := by decide +kernel
theorem dX0_checkGroups_43 : decode cX0_checkGroups 43 = .ok (.iaload, 1) := by decide +kernel
theorem dX0_checkGroups_44 : decode cX0_checkGroups 44 = .ok (.invokevirtual 243, 3) := by decide +kernel
theorem dX0_checkGroups_47 : decode cX0_checkGroups 47 = .ok (.ifCond .eq 25, 3) := by decide +kernel
theorem dX0_checkGroups_50 : decode cX0_checkGroups 50 = .ok (.aload_n 0, 1) := by decide +kernel
theorem dX0_checkGroups_51 : decode cX0_checkGroups 51 = .ok (.aload_n 1, 1) := by decide +kernel
theorem dX0_checkGroups_52 : decode cX0_checkGroups 52 = .ok (.getfield 60, 3) := by decide +kernel
theorem dX0_checkGroups_55 : decode cX0_checkGroups 55 = .ok (.aload_n 0, 1) := by decide +kernel
theorem dX0_checkGroups_56 : decode cX0_checkGroups 56 = .ok (.getfield 25, 3) := by decide +kernel
theorem dX0_checkGroups_59 : decode cX0_checkGroups 59 = .ok (.getfield 246, 3) := by decide +kernel
theorem dX0_checkGroups_62 : decode cX0_checkGroups 62 = .ok (.aload_n 1, 1) := by decide +kernel
theorem dX0_checkGroups_63 : decode cX0_checkGroups 63 = .ok (.getfield 240, 3) := by decide +kernel
theorem dX0_checkGroups_66 : decode cX0_checkGroups 66 = .ok (.iconst 0, 1) := by decide +kernel
theorem dX0_checkGroups_67 : decode cX0_checkGroups 67 = .ok (.iaload, 1) := by decide +kernel
theorem dX0_checkGroups_68 : decode cX0_checkGroups 68 = .ok (.iaload, 1) := by decide +kernel
theorem dX0_checkGroups_69 : decode cX0_checkGroups 69 = .ok (.invokevirtual 86, 3) := by decide +kernel
theorem dX0_checkGroups_72 : decode cX0_checkGroups 72 = .ok (.iconst 0, 1) := by decide +kernel
theorem dX0_checkGroups_73 : decode cX0_checkGroups 73 = .ok (.istore_n 3, 1) := by decide +kernel
theorem dX0_checkGroups_74 : decode cX0_checkGroups 74 = .ok (.iload_n 3, 1) := by decide +kernel
theorem dX0_checkGroups_75 : decode cX0_checkGroups 75 = .ok (.aload_n 2, 1) := by decide +kernel
theorem dX0_checkGroups_76 : decode cX0_checkGroups 76 = .ok (.getfield 186, 3) := by decide +kernel
theorem dX0_checkGroups_79 : decode cX0_checkGroups 79 = .ok (.if_icmp .ge 71, 3) := by decide +kernel
theorem dX0_checkGroups_82 : decode cX0_checkGroups 82 = .ok (.aload_n 2, 1) := by decide +kernel
theorem dX0_checkGroups_83 : decode cX0_checkGroups 83 = .ok (.iload_n 3, 1) := by decide +kernel
theorem dX0_checkGroups_84 : decode cX0_checkGroups 84 = .ok (.invokevirtual 221, 3) := by decide +kernel
theorem dX0_checkGroups_87 : decode cX0_checkGroups 87 = .ok (.ifCond .eq 63, 3) := by decide +kernel
theorem dX0_checkGroups_90 : decode cX0_checkGroups 90 = .ok (.aload_n 0, 1) := by decide +kernel
theorem dX0_checkGroups_91 : decode cX0_checkGroups 91 = .ok (.aload_n 2, 1) := by decide +kernel
theorem dX0_checkGroups_92 : decode cX0_checkGroups 92 = .ok (.getfield 249, 3) := by decide +kernel
theorem dX0_checkGroups_95 : decode cX0_checkGroups 95 = .ok (.iload_n 3, 1) := by decide +kernel
theorem dX0_checkGroups_96 : decode cX0_checkGroups 96 = .ok (.iaload, 1) := by decide +kernel
theorem dX0_checkGroups_97 : decode cX0_checkGroups 97 = .ok (.invokevirtual 252, 3) := by decide +kernel
theorem dX0_checkGroups_100 : decode cX0_checkGroups 100 = .ok (.aload_n 2, 1) := by decide +kernel
theorem dX0_checkGroups_101 : decode cX0_checkGroups 101 = .ok (.iload_n 3, 1) := by decide +kernel
theorem dX0_checkGroups_102 : decode cX0_checkGroups 102 = .ok (.aload_n 0, 1) := by decide +kernel
theorem dX0_checkGroups_103 : decode cX0_checkGroups 103 = .ok (.aload_n 2, 1) := by decide +kernel
theorem dX0_checkGroups_104 : decode cX0_checkGroups 104 = .ok (.getfield 249, 3) := by decide +kernel
theorem dX0_checkGroups_107 : decode cX0_checkGroups 107 = .ok (.iload_n 3, 1) := by decide +kernel
theorem dX0_checkGroups_108 : decode cX0_checkGroups 108 = .ok (.iaload, 1) := by decide +kernel
theorem dX0_checkGroups_109 : decode cX0_checkGroups 109 = .ok (.invokevirtual 255, 3) := by decide +kernel
theorem dX0_checkGroups_112 : decode cX0_checkGroups 112 = .ok (.invokevirtual 258, 3) := by decide +kernel
theorem dX0_checkGroups_115 : decode cX0_checkGroups 115 = .ok (.aload_n 2, 1) := by decide +kernel
theorem dX0_checkGroups_116 : decode cX0_checkGroups 116 = .ok (.aload_n 2, 1) := by decide +kernel
theorem dX0_checkGroups_117 : decode cX0_checkGroups 117 = .ok (.getfield 224, 3) := by decide +kernel
theorem dX0_checkGroups_120 : decode cX0_checkGroups 120 = .ok (.iload_n 3, 1) := by decide +kernel
theorem dX0_checkGroups_121 : decode cX0_checkGroups 121 = .ok (.laload, 1) := by decide +kernel
theorem dX0_checkGroups_122 : decode cX0_checkGroups 122 = .ok (.iconst 0, 1) := by decide +kernel
theorem dX0_checkGroups_123 : decode cX0_checkGroups 123 = .ok (.invokevirtual 261, 3) := by decide +kernel
theorem dX0_checkGroups_126 : decode cX0_checkGroups 126 = .ok (.iload_n 3, 1) := by decide +kernel
theorem dX0_checkGroups_127 : decode cX0_checkGroups 127 = .ok (.if_icmp .ge 17, 3) := by decide +kernel
theorem dX0_checkGroups_130 : decode cX0_checkGroups 130 = .ok (.aload_n 0, 1) := by decide +kernel
theorem dX0_checkGroups_131 : decode cX0_checkGroups 131 = .ok (.getfield 9, 3) := by decide +kernel
theorem dX0_checkGroups_134 : decode cX0_checkGroups 134 = .ok (.iconst 2, 1) := by decide +kernel
theorem dX0_checkGroups_135 : decode cX0_checkGroups 135 = .ok (.aload_n 2, 1) := by decide +kernel
theorem dX0_checkGroups_136 : decode cX0_checkGroups 136 = .ok (.getfield 265, 3) := by decide +kernel
theorem dX0_checkGroups_139 : decode cX0_checkGroups 139 = .ok (.iload_n 3, 1) := by decide +kernel
theorem dX0_checkGroups_140 : decode cX0_checkGroups 140 = .ok (.iaload, 1) := by decide +kernel
theorem dX0_checkGroups_141 : decode cX0_checkGroups 141 = .ok (.invokevirtual 76, 3) := by decide +kernel
theorem dX0_checkGroups_144 : decode cX0_checkGroups 144 = .ok (.iinc 3 1, 3) := by decide +kernel
theorem dX0_checkGroups_147 : decode cX0_checkGroups 147 = .ok (.goto (-73), 3) := by decide +kernel
theorem dX0_checkGroups_150 : decode cX0_checkGroups 150 = .ok (.iconst 0, 1) := by decide +kernel
theorem dX0_checkGroups_151 : decode cX0_checkGroups 151 = .ok (.istore_n 3, 1) := by decide +kernel
theorem dX0_checkGroups_152 : decode cX0_checkGroups 152 = .ok (.iload_n 3, 1) := by decide +kernel
theorem dX0_checkGroups_153 : decode cX0_checkGroups 153 = .ok (.aload_n 1, 1) := by decide +kernel
theorem dX0_checkGroups_154 : decode cX0_checkGroups 154 = .ok (.getfield 237, 3) := by decide +kernel
theorem dX0_checkGroups_157 : decode cX0_checkGroups 157 = .ok (.if_icmp .ge 54, 3) := by decide +kernel
theorem dX0_checkGroups_160 : decode cX0_checkGroups 160 = .ok (.iload_n 3, 1) := by decide +kernel
theorem dX0_checkGroups_161 : decode cX0_checkGroups 161 = .ok (.aload_n 1, 1) := by decide +kernel
theorem dX0_checkGroups_162 : decode cX0_checkGroups 162 = .ok (.getfield 240, 3) := by decide +kernel
theorem dX0_checkGroups_165 : decode cX0_checkGroups 165 = .ok (.arraylength, 1) := by decide +kernel
theorem dX0_checkGroups_166 : decode cX0_checkGroups 166 = .ok (.if_icmp .ge 45, 3) := by decide +kernel
theorem dX0_checkGroups_169 : decode cX0_checkGroups 169 = .ok (.aload_n 0, 1) := by decide +kernel
theorem dX0_checkGroups_170 : decode cX0_checkGroups 170 = .ok (.getfield 25, 3) := by decide +kernel
theorem dX0_checkGroups_173 : decode cX0_checkGroups 173 = .ok (.aload_n 1, 1) := by decide +kernel
theorem dX0_checkGroups_174 : decode cX0_checkGroups 174 = .ok (.getfield 240, 3) := by decide +kernel
theorem dX0_checkGroups_177 : decode cX0_checkGroups 177 = .ok (.iload_n 3, 1) := by decide +kernel
theorem dX0_checkGroups_178 : decode cX0_checkGroups 178 = .ok (.iaload, 1) := by decide +kernel
theorem dX0_checkGroups_179 : decode cX0_checkGroups 179 = .ok (.invokevirtual 243, 3) := by decide +kernel
theorem dX0_checkGroups_182 : decode cX0_checkGroups 182 = .ok (.ifCond .eq 23, 3) := by decide +kernel
theorem dX0_checkGroups_185 : decode cX0_checkGroups 185 = .ok (.aload_n 0, 1) := by decide +kernel
theorem dX0_checkGroups_186 : decode cX0_checkGroups 186 = .ok (.getfield 25, 3) := by decide +kernel
theorem dX0_checkGroups_189 : decode cX0_checkGroups 189 = .ok (.getfield 268, 3) := by decide +kernel
theorem dX0_checkGroups_192 : decode cX0_checkGroups 192 = .ok (.aload_n 1, 1) := by decide +kernel
theorem dX0_checkGroups_193 : decode cX0_checkGroups 193 = .ok (.getfield 240, 3) := by decide +kernel
theorem dX0_checkGroups_196 : decode cX0_checkGroups 196 = .ok (.iload_n 3, 1) := by decide +kernel
theorem dX0_checkGroups_197 : decode cX0_checkGroups 197 = .ok (.iaload, 1) := by decide +kernel
theorem dX0_checkGroups_198 : decode cX0_checkGroups 198 = .ok (.aload_n 2, 1) := by decide +kernel
theorem dX0_checkGroups_199 : decode cX0_checkGroups 199 = .ok (.getfield 186, 3) := by decide +kernel
theorem dX0_checkGroups_202 : decode cX0_checkGroups 202 = .ok (.iload_n 3, 1) := by decide +kernel
theorem dX0_checkGroups_203 : decode cX0_checkGroups 203 = .ok (.iadd, 1) := by decide +kernel
theorem dX0_checkGroups_204 : decode cX0_checkGroups 204 = .ok (.iastore, 1) := by decide +kernel
theorem dX0_checkGroups_205 : decode cX0_checkGroups 205 = .ok (.iinc 3 1, 3) := by decide +kernel
theorem dX0_checkGroups_208 : decode cX0_checkGroups 208 = .ok (.goto (-56), 3) := by decide +kernel
theorem dX0_checkGroups_211 : decode cX0_checkGroups 211 = .ok (.return_, 1) := by decide +kernel
def c_X0_checkGroups_b211 (F : Nat) (cs1 : CS) : Option CS := some cs1
def c_X0_checkGroups_b205 (F : Nat) (rc152 : CS → Nat → Nat → Nat → Int32 → Option CS) (cs1 : CS) (u0 : Nat) (u1 : Nat) (u2 : Nat) (u3 : Int32) : Option CS := rc152 cs1 u0 u1 u2 (u3 + 1)
def c_X0_checkGroups_L152 (F : Nat) : Nat → CS → Nat → Nat → Nat → Int32 → Option CS
  | 0, _, _, _, _, _ => none
  | lf_152 + 1, cs1, u0, u1, u2, u3 => Option.bind (gI cs1 6 203 u1) fun v_1 => if v_1 ≤ u3 then (c_X0_checkGroups_b211 F cs1) else (Option.bind (gA cs1 6 202 u1) fun v_3 => Option.bind (lnA cs1 202 u1 v_3) fun v_4 => if v_4 ≤ u3 then (c_X0_checkGroups_b211 F cs1) else (Option.bind (gR cs1 1 34 u0) fun v_6 => Option.bind (gA cs1 6 202 u1) fun v_7 => Option.bind (rA cs1 202 u1 v_7 u3) fun v_8 => Option.bind (v_6) fun i_10 => Option.bind (ckE cs1 2 i_10) fun _ => Option.bind (c_X1_has F cs1 i_10 v_8) fun v_9 => if v_9 = 0 then (c_X0_checkGroups_b205 F (c_X0_checkGroups_L152 F lf_152) cs1 u0 u1 u2 u3) else (Option.bind (gR cs1 1 34 u0) fun v_13 => Option.bind (v_13) fun i_14 => Option.bind (gA cs1 2 72 i_14) fun v_15 => Option.bind (gA cs1 6 202 u1) fun v_16 => Option.bind (rA cs1 202 u1 v_16 u3) fun v_17 => Option.bind (gI cs1 3 96 u2) fun v_18 => Option.bind (wA cs1 72 i_14 v_15 v_17 (v_18 + u3)) fun cs_19 => c_X0_checkGroups_b205 F (c_X0_checkGroups_L152 F lf_152) cs_19 u0 u1 u2 u3)))
def c_X0_checkGroups_b150 (F : Nat) (cs1 : CS) (u0 : Nat) (u1 : Nat) (u2 : Nat) : Option CS := c_X0_checkGroups_L152 F F cs1 u0 u1 u2 0
def c_X0_checkGroups_b144 (F : Nat) (rc74 : CS → Nat → Nat → Option Nat → Int32 → Option CS) (cs1 : CS) (u0 : Nat) (u1 : Nat) (u2 : Nat) (u3 : Int32) : Option CS := rc74 cs1 u0 u1 (some u2) (u3 + 1)
def c_X0_checkGroups_L74 (F : Nat) : Nat → CS → Nat → Nat → Option Nat → Int32 → Option CS
  | 0, _, _, _, _, _ => none
  | lf_74 + 1, cs1, u0, u1, u2, u3 => Option.bind (u2) fun i_20 => Option.bind (gI cs1 3 96 i_20) fun v_21 => if v_21 ≤ u3 then (c_X0_checkGroups_b150 F cs1 u0 u1 i_20) else (Option.bind (ckE cs1 3 i_20) fun _ => Option.bind (c_X2_has F cs1 i_20 u3) fun v_23 => if v_23 = 0 then (c_X0_checkGroups_b150 F cs1 u0 u1 i_20) else (Option.bind (gA cs1 3 97 i_20) fun v_26 => Option.bind (rA cs1 97 i_20 v_26 u3) fun v_27 => Option.bind (ckE cs1 1 u0) fun _ => Option.bind (c_X0_checkExpr F cs1 u0 v_27) fun cs_28 => Option.bind (gA cs_28 3 97 i_20) fun v_30 => Option.bind (rA cs_28 97 i_20 v_30 u3) fun v_31 => Option.bind (ckE cs_28 1 u0) fun _ => Option.bind (c_X0_typeOf F cs_28 u0 v_31) fun v_32 => Option.bind (ckE cs_28 3 i_20) fun _ => Option.bind (c_X2_settleType F cs_28 i_20 u3 v_32) fun cs_34 => Option.bind (gA cs_34 3 98 i_20) fun v_36 => Option.bind (rB cs_34 98 i_20 v_36 u3) fun v_37 => Option.bind (ckE cs_34 3 i_20) fun _ => Option.bind (c_X2_find F cs_34 i_20 v_37 0) fun v_38 => if u3 ≤ v_38 then (c_X0_checkGroups_b144 F (c_X0_checkGroups_L74 F lf_74) cs_34 u0 u1 i_20 u3) else (Option.bind (gR cs_34 1 32 u0) fun v_41 => Option.bind (gA cs_34 3 99 i_20) fun v_42 => Option.bind (rA cs_34 99 i_20 v_42 u3) fun v_43 => Option.bind (v_41) fun i_45 => Option.bind (ckE cs_34 10 i_45) fun _ => Option.bind (c_X9_refuse F cs_34 i_45 2 v_43) fun cs_44 => c_X0_checkGroups_b144 F (c_X0_checkGroups_L74 F lf_74) cs_44 u0 u1 i_20 u3)))
def c_X0_checkGroups_b72 (F : Nat) (cs1 : CS) (u0 : Nat) (u1 : Nat) (u2 : Option Nat) : Option CS := c_X0_checkGroups_L74 F F cs1 u0 u1 u2 0
def c_X0_checkGroups (F : Nat) (cs : CS) (x0 : Nat) (x1 : Nat) : Option CS := Option.bind (gR cs 6 200 x1) fun v_47 => Option.bind (gI cs 6 198 x1) fun v_48 => if v_48 = 0 then (Option.bind (gI cs 6 203 x1) fun v_50 => if v_50 ≤ 0 then (c_X0_checkGroups_b72 F cs x0 x1 v_47) else (Option.bind (gR cs 1 34 x0) fun v_52 => Option.bind (gA cs 6 202 x1) fun v_53 => Option.bind (rA cs 202 x1 v_53 0) fun v_54 => Option.bind (v_52) fun i_56 => Option.bind (ckE cs 2 i_56) fun _ => Option.bind (c_X1_has F cs i_56 v_54) fun v_55 => if v_55 = 0 then (c_X0_checkGroups_b72 F cs x0 x1 v_47) else (Option.bind (gI cs 6 206 x1) fun v_59 => Option.bind (gR cs 1 34 x0) fun v_60 => Option.bind (v_60) fun i_61 => Option.bind (gA cs 2 66 i_61) fun v_62 => Option.bind (gA cs 6 202 x1) fun v_63 => Option.bind (rA cs 202 x1 v_63 0) fun v_64 => Option.bind (rA cs 66 i_61 v_62 v_64) fun v_65 => Option.bind (ckE cs 1 x0) fun _ => Option.bind (c_X0_checkBound F cs x0 v_59 v_65) fun cs_66 => c_X0_checkGroups_b72 F cs_66 x0 x1 v_47))) else (Option.bind (gI cs 6 206 x1) fun v_68 => Option.bind (gI cs 6 199 x1) fun v_69 => Option.bind (ckE cs 1 x0) fun _ => Option.bind (c_X0_checkBound F cs x0 v_68 v_69) fun cs_70 => c_X0_checkGroups_b72 F cs_70 x0 x1 v_47)
theorem cw_X0_X0_checkGroups {R : Room} {s : State} {args : Array Value} {y0 : MethodName} {c0 : ByteArray} {n0 : Nat} {r0 : Option FieldType} (hts : ∀ w ∈ wsOf y0 c0 n0 r0, w.before args s = true) {fr : Nat} (h1 : fr + 1 ≤ R.frames) (h2 : 8 + (4 + 11) + 60 * fr ≤ R.locals) : CallW R s args RX0 RX0 135 yX0_checkGroups cX0_checkGroups 4 none (wsOf yX0_checkGroups cX0_checkGroups 4 none) ({ frames := fr, cells := 0, slots := 0, locals := 60 * fr } : Room) 0 0 1 := cwV 1 hts (gd_all (in_V kw_1280 kw_1282 kw_61 kw_204 kc_X0_checkGroups)) rfl rfl rfl (by decide +kernel) ⟨h1, h2⟩
set_option maxHeartbeats 4000000 in
set_option maxRecDepth 100000 in
theorem sc_X0_checkGroups (l : Launch) (dC : Nat → ClassId) (dI : Nat → Nat → Nat) (cB cI cJ cZ cS cO : ClassId) (b : Nat) (K V : Nat → Nat) (fz : Value) (F : Nat) (cs : CS) (x0 : Nat) (x1 : Nat) (cs9 : CS) (hf : c_X0_checkGroups F cs x0 x1 = some cs9) : ocV l dC dI cB cI cJ cZ cS cO b K V fz yX0_checkGroups (wsOf yX0_checkGroups cX0_checkGroups 4 none) (4) [.ref (b + x0), .ref (b + x1)] cs cs9 := by
  intro sz
  refine Met.ofW (cc := cX0_checkGroups) (maxL := 4) (ret := none) (by decide) rfl ?_
  intro p e s m args below meth c s₁ B hml hv
  obtain ⟨rfl, hsz, hP, hK, hD0, hZ⟩ := hv
  have hx := B.exec
  have hb := B.bytes
  have hr := B.returns
  have hts := atoms_spec (ws := (wsOf yX0_checkGroups cX0_checkGroups 4 none)) B.pre
  have hown : s.vm.findClass RX0 = some m.cls := findClass_of_methodNamed B.named
  have hlocks := B.notSynchronized
  subst hsz
  have hD := hD0.self (sz := s.heap.size)
  generalize hAe : va_A (cW cB cI cJ cZ cS cO b cs) s.heap.size = A at hD hZ ⊢
  have hA : ∀ q : Nat, s.heap.size ≤ q → A q := fun q h => by rw [← hAe]; exact Or.inr h
  have hS : va_S A s.heap s.heap [] := va_S.rf
  have hl := lv_entry ([.ref (b + x0), .ref (b + x1)]) (n := 4) (Nat.le_of_ble_eq_true rfl)
  rw [lg_entry_eq]
  generalize (lg_sl ([.ref (b + x0), .ref (b + x1)]) ++ List.replicate (4 - (lg_sl ([.ref (b + x0), .ref (b + x1)])).length) Slot.unset).toArray = ls at hl ⊢
  have hl : lv_has ls 4 [(0, .ref (b + x0)), (1, .ref (b + x1))] := hl
  have B_211 : ∀ (cs1 : CS) , c_X0_checkGroups_b211 F cs1 = some cs9 → ∀ (H : Heap) (locs : List Loc) (ls : Array Slot), va_P (dC, dI) vwCl (cW cB cI cJ cZ cS cO b cs1) H → va_D A (cW cB cI cJ cZ cS cO b cs1) → va_S A s.heap H locs → lv_has ls 4 [] → W p l e (headSpec (wsOf yX0_checkGroups cX0_checkGroups 4 none) ({ frames := 4, cells := 0, slots := 0, locals := 60 * (4) } : Room)).room s m ([.ref (b + x0), .ref (b + x1)] : List Value).toArray below meth c H locs 0 0 (MQ below (va_Qv (fun (_ : Unit) => True) (fun _ t_ => va_P (dC, dI) vwCl (cW cB cI cJ cZ cS cO b cs9) t_.heap ∧ va_D A (cW cB cI cJ cZ cS cO b cs9)) A) ([.ref (b + x0), .ref (b + x1)] : List Value).toArray s 0 0 A) (F0 m 211 ls []) := by
    intro cs1  h H locs ls hP hD hS hl
    unfold c_X0_checkGroups_b211 at h
    have e1 := Option.some.inj h
    rw [e1] at hP hD
    exact W.vret hx hb hr (fun t_ ht hW => ⟨⟨(), rfl, trivial, by rw [ht]; exact hP, hD⟩, hS.F ht⟩) hS.2.2 dX0_checkGroups_211
  have L_152 : ∀ (lf_152 : Nat), ∀ (cs1 : CS) (u0 : Nat) (u1 : Nat) (u2 : Nat) (u3 : Int32), c_X0_checkGroups_L152 F lf_152 cs1 u0 u1 u2 u3 = some cs9 → ∀ (H : Heap) (locs : List Loc) (ls : Array Slot), va_P (dC, dI) vwCl (cW cB cI cJ cZ cS cO b cs1) H → va_D A (cW cB cI cJ cZ cS cO b cs1) → va_S A s.heap H locs → lv_has ls 4 [(0, .ref (b + u0)), (1, .ref (b + u1)), (2, .ref (b + u2)), (3, .int u3)] → W p l e (headSpec (wsOf yX0_checkGroups cX0_checkGroups 4 none) ({ frames := 4, cells := 0, slots := 0, locals := 60 * (4) } : Room)).room s m ([.ref (b + x0), .ref (b + x1)] : List Value).toArray below meth c H locs 0 0 (MQ below (va_Qv (fun (_ : Unit) => True) (fun _ t_ => va_P (dC, dI) vwCl (cW cB cI cJ cZ cS cO b cs9) t_.heap ∧ va_D A (cW cB cI cJ cZ cS cO b cs9)) A) ([.ref (b + x0), .ref (b + x1)] : List Value).toArray s 0 0 A) (F0 m 152 ls []) := by
    intro lf_152
    induction lf_152 with
    | zero => intro cs1 u0 u1 u2 u3 h; cases (show (none : Option CS) = _ from h)
    | succ lf_152 ih_152 =>
      have B_205 : ∀ (cs1 : CS) (u0 : Nat) (u1 : Nat) (u2 : Nat) (u3 : Int32), c_X0_checkGroups_b205 F (c_X0_checkGroups_L152 F lf_152) cs1 u0 u1 u2 u3 = some cs9 → ∀ (H : Heap) (locs : List Loc) (ls : Array Slot), va_P (dC, dI) vwCl (cW cB cI cJ cZ cS cO b cs1) H → va_D A (cW cB cI cJ cZ cS cO b cs1) → va_S A s.heap H locs → lv_has ls 4 [(0, .ref (b + u0)), (1, .ref (b + u1)), (2, .ref (b + u2)), (3, .int u3)] → W p l e (headSpec (wsOf yX0_checkGroups cX0_checkGroups 4 none) ({ frames := 4, cells := 0, slots := 0, locals := 60 * (4) } : Room)).room s m ([.ref (b + x0), .ref (b + x1)] : List Value).toArray below meth c H locs 0 0 (MQ below (va_Qv (fun (_ : Unit) => True) (fun _ t_ => va_P (dC, dI) vwCl (cW cB cI cJ cZ cS cO b cs9) t_.heap ∧ va_D A (cW cB cI cJ cZ cS cO b cs9)) A) ([.ref (b + x0), .ref (b + x1)] : List Value).toArray s 0 0 A) (F0 m 205 ls []) := by
        intro cs1 u0 u1 u2 u3 h H locs ls hP hD hS hl
        unfold c_X0_checkGroups_b205 at h
        refine lv_iinc (v := u3 + 1) (lv' := [(3, .int (u3 + 1)), (0, .ref (b + u0)), (1, .ref (b + u1)), (2, .ref (b + u2))]) hx hb dX0_checkGroups_205 hl (k := 3) rfl rfl (by decide) rfl (fun ls hl => ?_)
        refine lv_goto (tgt := 152) hx hb dX0_checkGroups_208 (by decide) ?_
        exact ih_152 cs1 u0 u1 u2 (u3 + 1) h _ _ _ hP hD hS (lv_sub hl [1, 2, 3, 0] rfl)
      intro cs1 u0 u1 u2 u3 h H locs ls hP hD hS hl
      rw [c_X0_checkGroups_L152] at h
      refine lv_iload_n hx hb dX0_checkGroups_152 rfl (lv_at hl 3 rfl) ?_
      refine lv_aload_n hx hb dX0_checkGroups_153 rfl (lv_at hl 1 rfl) ?_
      replace h := ob h; obtain ⟨v_1, hv_1, h⟩ := h
      refine fg_X0_237 hx hb hts hown hK hP hv_1 dX0_checkGroups_154 ?_
      refine lv_icmp_ge (tgt := 211) hx hb dX0_checkGroups_157 (by decide) (fun c_2 => ?_) (fun c_2 => ?_)
      · skip
        replace h := (if_pos c_2).symm.trans h
        exact B_211 cs1 h _ _ _ hP hD hS (lv_sub hl [] rfl)
      · skip
        replace h := (if_neg c_2).symm.trans h
        refine lv_iload_n hx hb dX0_checkGroups_160 rfl (lv_at hl 3 rfl) ?_
        refine lv_aload_n hx hb dX0_checkGroups_161 rfl (lv_at hl 1 rfl) ?_
        replace h := ob h; obtain ⟨v_3, hv_3, h⟩ := h
        refine fg_X0_240 hx hb hts hown hK hP hv_3 dX0_checkGroups_162 ?_
        replace h := ob h; obtain ⟨v_4, hv_4, h⟩ := h
        refine alen0 hx hb hK hP rfl hv_4 dX0_checkGroups_165 ?_
        refine lv_icmp_ge (tgt := 211) hx hb dX0_checkGroups_166 (by decide) (fun c_5 => ?_) (fun c_5 => ?_)
        · skip
          replace h := (if_pos c_5).symm.trans h
          exact B_211 cs1 h _ _ _ hP hD hS (lv_sub hl [] rfl)
        · skip
          replace h := (if_neg c_5).symm.trans h
          refine lv_aload_n hx hb dX0_checkGroups_169 rfl (lv_at hl 0 rfl) ?_
          replace h := ob h; obtain ⟨v_6, hv_6, h⟩ := h
          refine fg_X0_25 hx hb hts hown hK hP hv_6 dX0_checkGroups_170 ?_
          refine lv_aload_n hx hb dX0_checkGroups_173 rfl (lv_at hl 1 rfl) ?_
          replace h := ob h; obtain ⟨v_7, hv_7, h⟩ := h
          refine fg_X0_240 hx hb hts hown hK hP hv_7 dX0_checkGroups_174 ?_
          refine lv_iload_n hx hb dX0_checkGroups_177 rfl (lv_at hl 3 rfl) ?_
          replace h := ob h; obtain ⟨v_8, hv_8, h⟩ := h
          refine ald0 hx hb hK hP rfl hv_8 dX0_checkGroups_178 ?_
          replace h := ob h; obtain ⟨i_10, hi_10, h⟩ := h
          subst hi_10
          replace h := ob h; obtain ⟨w_11, hw_11, h⟩ := h
          replace h := ob h; obtain ⟨v_9, hv_9, h⟩ := h
          refine ccI (As := [.int v_8]) hx hb hml hts hown hK hP hD hS hA hZ (X := 2) (by decide) rfl (ckE_some hw_11) (sc_X1_has l dC dI cB cI cJ cZ cS cO b K V fz F cs1 i_10 v_8 v_9 hv_9) (cw_X0_X1_has hts (fr := 0) (Nat.le_of_ble_eq_true rfl) (Nat.le_of_ble_eq_true rfl)) rfl hl.1 (Nat.le_of_ble_eq_true rfl) ⟨Nat.zero_le _, Nat.zero_le _⟩ dX0_checkGroups_179 (fun H locs hP hD hS => ?_)
          refine lv_if_eq (tgt := 205) hx hb dX0_checkGroups_182 (by decide) (fun c_12 => ?_) (fun c_12 => ?_)
          · skip
            replace h := (if_pos c_12).symm.trans h
            exact B_205 cs1 u0 u1 u2 u3 h _ _ _ hP hD hS (lv_sub hl [0, 1, 2, 3] rfl)
          · skip
            replace h := (if_neg c_12).symm.trans h
            refine lv_aload_n hx hb dX0_checkGroups_185 rfl (lv_at hl 0 rfl) ?_
            replace h := ob h; obtain ⟨v_13, hv_13, h⟩ := h
            refine fg_X0_25 hx hb hts hown hK hP hv_13 dX0_checkGroups_186 ?_
            replace h := ob h; obtain ⟨i_14, hi_14, h⟩ := h
            subst hi_14
            replace h := ob h; obtain ⟨v_15, hv_15, h⟩ := h
            refine fg_X0_268 hx hb hts hown hK hP hv_15 dX0_checkGroups_189 ?_
            refine lv_aload_n hx hb dX0_checkGroups_192 rfl (lv_at hl 1 rfl) ?_
            replace h := ob h; obtain ⟨v_16, hv_16, h⟩ := h
            refine fg_X0_240 hx hb hts hown hK hP hv_16 dX0_checkGroups_193 ?_
            refine lv_iload_n hx hb dX0_checkGroups_196 rfl (lv_at hl 3 rfl) ?_
            replace h := ob h; obtain ⟨v_17, hv_17, h⟩ := h
            refine ald0 hx hb hK hP rfl hv_17 dX0_checkGroups_197 ?_
            refine lv_aload_n hx hb dX0_checkGroups_198 rfl (lv_at hl 2 rfl) ?_
            replace h := ob h; obtain ⟨v_18, hv_18, h⟩ := h
            refine fg_X0_186 hx hb hts hown hK hP hv_18 dX0_checkGroups_199 ?_
            refine lv_iload_n hx hb dX0_checkGroups_202 rfl (lv_at hl 3 rfl) ?_
            refine lv_iadd hx hb dX0_checkGroups_203 ?_
            replace h := ob h; obtain ⟨cs_19, hv_19, h⟩ := h
            refine ast0 hx hb hK hP hD hS rfl hv_19 dX0_checkGroups_204 (fun H locs hP hD hS => ?_)
            exact B_205 cs_19 u0 u1 u2 u3 h _ _ _ hP hD hS (lv_sub hl [0, 1, 2, 3] rfl)
  have B_150 : ∀ (cs1 : CS) (u0 : Nat) (u1 : Nat) (u2 : Nat), c_X0_checkGroups_b150 F cs1 u0 u1 u2 = some cs9 → ∀ (H : Heap) (locs : List Loc) (ls : Array Slot), va_P (dC, dI) vwCl (cW cB cI cJ cZ cS cO b cs1) H → va_D A (cW cB cI cJ cZ cS cO b cs1) → va_S A s.heap H locs → lv_has ls 4 [(0, .ref (b + u0)), (1, .ref (b + u1)), (2, .ref (b + u2))] → W p l e (headSpec (wsOf yX0_checkGroups cX0_checkGroups 4 none) ({ frames := 4, cells := 0, slots := 0, locals := 60 * (4) } : Room)).room s m ([.ref (b + x0), .ref (b + x1)] : List Value).toArray below meth c H locs 0 0 (MQ below (va_Qv (fun (_ : Unit) => True) (fun _ t_ => va_P (dC, dI) vwCl (cW cB cI cJ cZ cS cO b cs9) t_.heap ∧ va_D A (cW cB cI cJ cZ cS cO b cs9)) A) ([.ref (b + x0), .ref (b + x1)] : List Value).toArray s 0 0 A) (F0 m 150 ls []) := by
    intro cs1 u0 u1 u2 h H locs ls hP hD hS hl
    unfold c_X0_checkGroups_b150 at h
    refine lv_iconst (v := 0) hx hb dX0_checkGroups_150 (by decide) ?_
    refine lv_istore_n (lv' := [(3, .int 0), (0, .ref (b + u0)), (1, .ref (b + u1)), (2, .ref (b + u2))]) hx hb dX0_checkGroups_151 rfl hl (by decide) rfl (fun ls hl => ?_)
    exact L_152 F cs1 u0 u1 u2 0 h _ _ _ hP hD hS (lv_sub hl [1, 2, 3, 0] rfl)
  have L_74 : ∀ (lf_74 : Nat), ∀ (cs1 : CS) (u0 : Nat) (u1 : Nat) (u2 : Option Nat) (u3 : Int32), c_X0_checkGroups_L74 F lf_74 cs1 u0 u1 u2 u3 = some cs9 → ∀ (H : Heap) (locs : List Loc) (ls : Array Slot), va_P (dC, dI) vwCl (cW cB cI cJ cZ cS cO b cs1) H → va_D A (cW cB cI cJ cZ cS cO b cs1) → va_S A s.heap H locs → lv_has ls 4 [(0, .ref (b + u0)), (1, .ref (b + u1)), (2, rv b u2), (3, .int u3)] → W p l e (headSpec (wsOf yX0_checkGroups cX0_checkGroups 4 none) ({ frames := 4, cells := 0, slots := 0, locals := 60 * (4) } : Room)).room s m ([.ref (b + x0), .ref (b + x1)] : List Value).toArray below meth c H locs 0 0 (MQ below (va_Qv (fun (_ : Unit) => True) (fun _ t_ => va_P (dC, dI) vwCl (cW cB cI cJ cZ cS cO b cs9) t_.heap ∧ va_D A (cW cB cI cJ cZ cS cO b cs9)) A) ([.ref (b + x0), .ref (b + x1)] : List Value).toArray s 0 0 A) (F0 m 74 ls []) := by
    intro lf_74
    induction lf_74 with
    | zero => intro cs1 u0 u1 u2 u3 h; cases (show (none : Option CS) = _ from h)
    | succ lf_74 ih_74 =>
      have B_144 : ∀ (cs1 : CS) (u0 : Nat) (u1 : Nat) (u2 : Nat) (u3 : Int32), c_X0_checkGroups_b144 F (c_X0_checkGroups_L74 F lf_74) cs1 u0 u1 u2 u3 = some cs9 → ∀ (H : Heap) (locs : List Loc) (ls : Array Slot), va_P (dC, dI) vwCl (cW cB cI cJ cZ cS cO b cs1) H → va_D A (cW cB cI cJ cZ cS cO b cs1) → va_S A s.heap H locs → lv_has ls 4 [(0, .ref (b + u0)), (1, .ref (b + u1)), (2, .ref (b + u2)), (3, .int u3)] → W p l e (headSpec (wsOf yX0_checkGroups cX0_checkGroups 4 none) ({ frames := 4, cells := 0, slots := 0, locals := 60 * (4) } : Room)).room s m ([.ref (b + x0), .ref (b + x1)] : List Value).toArray below meth c H locs 0 0 (MQ below (va_Qv (fun (_ : Unit) => True) (fun _ t_ => va_P (dC, dI) vwCl (cW cB cI cJ cZ cS cO b cs9) t_.heap ∧ va_D A (cW cB cI cJ cZ cS cO b cs9)) A) ([.ref (b + x0), .ref (b + x1)] : List Value).toArray s 0 0 A) (F0 m 144 ls []) := by
        intro cs1 u0 u1 u2 u3 h H locs ls hP hD hS hl
        unfold c_X0_checkGroups_b144 at h
        refine lv_iinc (v := u3 + 1) (lv' := [(3, .int (u3 + 1)), (0, .ref (b + u0)), (1, .ref (b + u1)), (2, .ref (b + u2))]) hx hb dX0_checkGroups_144 hl (k := 3) rfl rfl (by decide) rfl (fun ls hl => ?_)
        refine lv_goto (tgt := 74) hx hb dX0_checkGroups_147 (by decide) ?_
        exact ih_74 cs1 u0 u1 (some u2) (u3 + 1) h _ _ _ hP hD hS (lv_sub hl [1, 2, 3, 0] rfl)
      intro cs1 u0 u1 u2 u3 h H locs ls hP hD hS hl
      rw [c_X0_checkGroups_L74] at h
      refine lv_iload_n hx hb dX0_checkGroups_74 rfl (lv_at hl 3 rfl) ?_
      refine lv_aload_nO hx hb dX0_checkGroups_75 rfl (lv_at hl 2 rfl) ?_
      replace h := ob h; obtain ⟨i_20, hi_20, h⟩ := h
      subst hi_20
      replace h := ob h; obtain ⟨v_21, hv_21, h⟩ := h
      refine fg_X0_186 hx hb hts hown hK hP hv_21 dX0_checkGroups_76 ?_
      refine lv_icmp_ge (tgt := 150) hx hb dX0_checkGroups_79 (by decide) (fun c_22 => ?_) (fun c_22 => ?_)
      · skip
        replace h := (if_pos c_22).symm.trans h
        exact B_150 cs1 u0 u1 i_20 h _ _ _ hP hD hS (lv_sub hl [0, 1, 2] rfl)
      · skip
        replace h := (if_neg c_22).symm.trans h
        refine lv_aload_n hx hb dX0_checkGroups_82 rfl (lv_at hl 2 rfl) ?_
        refine lv_iload_n hx hb dX0_checkGroups_83 rfl (lv_at hl 3 rfl) ?_
        replace h := ob h; obtain ⟨w_24, hw_24, h⟩ := h
        replace h := ob h; obtain ⟨v_23, hv_23, h⟩ := h
        refine ccI (As := [.int u3]) hx hb hml hts hown hK hP hD hS hA hZ (X := 3) (by decide) rfl (ckE_some hw_24) (sc_X2_has l dC dI cB cI cJ cZ cS cO b K V fz F cs1 i_20 u3 v_23 hv_23) (cw_X0_X2_has hts (fr := 0) (Nat.le_of_ble_eq_true rfl) (Nat.le_of_ble_eq_true rfl)) rfl hl.1 (Nat.le_of_ble_eq_true rfl) ⟨Nat.zero_le _, Nat.zero_le _⟩ dX0_checkGroups_84 (fun H locs hP hD hS => ?_)
        refine lv_if_eq (tgt := 150) hx hb dX0_checkGroups_87 (by decide) (fun c_25 => ?_) (fun c_25 => ?_)
        · skip
          replace h := (if_pos c_25).symm.trans h
          exact B_150 cs1 u0 u1 i_20 h _ _ _ hP hD hS (lv_sub hl [0, 1, 2] rfl)
        · skip
          replace h := (if_neg c_25).symm.trans h
          refine lv_aload_n hx hb dX0_checkGroups_90 rfl (lv_at hl 0 rfl) ?_
          refine lv_aload_n hx hb dX0_checkGroups_91 rfl (lv_at hl 2 rfl) ?_
          replace h := ob h; obtain ⟨v_26, hv_26, h⟩ := h
          refine fg_X0_249 hx hb hts hown hK hP hv_26 dX0_checkGroups_92 ?_
          refine lv_iload_n hx hb dX0_checkGroups_95 rfl (lv_at hl 3 rfl) ?_
          replace h := ob h; obtain ⟨v_27, hv_27, h⟩ := h
          refine ald0 hx hb hK hP rfl hv_27 dX0_checkGroups_96 ?_
          replace h := ob h; obtain ⟨w_29, hw_29, h⟩ := h
          replace h := ob h; obtain ⟨cs_28, hv_28, h⟩ := h
          refine ccV (As := [.int v_27]) hx hb hml hts hown hK hP hD hS hA hZ (X := 1) (by decide) rfl (ckE_some hw_29) (sc_X0_checkExpr l dC dI cB cI cJ cZ cS cO b K V fz F cs1 u0 v_27 cs_28 hv_28) (cw_X0_X0_checkExpr hts (fr := 3) (Nat.le_of_ble_eq_true rfl) (Nat.le_of_ble_eq_true rfl)) rfl hl.1 (Nat.le_of_ble_eq_true rfl) ⟨Nat.zero_le _, Nat.zero_le _⟩ dX0_checkGroups_97 (fun H locs hP hD hS => ?_)
          refine lv_aload_n hx hb dX0_checkGroups_100 rfl (lv_at hl 2 rfl) ?_
          refine lv_iload_n hx hb dX0_checkGroups_101 rfl (lv_at hl 3 rfl) ?_
          refine lv_aload_n hx hb dX0_checkGroups_102 rfl (lv_at hl 0 rfl) ?_
          refine lv_aload_n hx hb dX0_checkGroups_103 rfl (lv_at hl 2 rfl) ?_
          replace h := ob h; obtain ⟨v_30, hv_30, h⟩ := h
          refine fg_X0_249 hx hb hts hown hK hP hv_30 dX0_checkGroups_104 ?_
          refine lv_iload_n hx hb dX0_checkGroups_107 rfl (lv_at hl 3 rfl) ?_
          replace h := ob h; obtain ⟨v_31, hv_31, h⟩ := h
          refine ald0 hx hb hK hP rfl hv_31 dX0_checkGroups_108 ?_
          replace h := ob h; obtain ⟨w_33, hw_33, h⟩ := h
          replace h := ob h; obtain ⟨v_32, hv_32, h⟩ := h
          refine ccI (As := [.int v_31]) hx hb hml hts hown hK hP hD hS hA hZ (X := 1) (by decide) rfl (ckE_some hw_33) (sc_X0_typeOf l dC dI cB cI cJ cZ cS cO b K V fz F cs_28 u0 v_31 v_32 hv_32) (cw_X0_X0_typeOf hts (fr := 1) (Nat.le_of_ble_eq_true rfl) (Nat.le_of_ble_eq_true rfl)) rfl hl.1 (Nat.le_of_ble_eq_true rfl) ⟨Nat.zero_le _, Nat.zero_le _⟩ dX0_checkGroups_109 (fun H locs hP hD hS => ?_)
          replace h := ob h; obtain ⟨w_35, hw_35, h⟩ := h
          replace h := ob h; obtain ⟨cs_34, hv_34, h⟩ := h
          refine ccV (As := [.int u3, .int v_32]) hx hb hml hts hown hK hP hD hS hA hZ (X := 3) (by decide) rfl (ckE_some hw_35) (sc_X2_settleType l dC dI cB cI cJ cZ cS cO b K V fz F cs_28 i_20 u3 v_32 cs_34 hv_34) (cw_X0_X2_settleType hts (fr := 1) (Nat.le_of_ble_eq_true rfl) (Nat.le_of_ble_eq_true rfl)) rfl hl.1 (Nat.le_of_ble_eq_true rfl) ⟨Nat.zero_le _, Nat.zero_le _⟩ dX0_checkGroups_112 (fun H locs hP hD hS => ?_)
          refine lv_aload_n hx hb dX0_checkGroups_115 rfl (lv_at hl 2 rfl) ?_
          refine lv_aload_n hx hb dX0_checkGroups_116 rfl (lv_at hl 2 rfl) ?_
          replace h := ob h; obtain ⟨v_36, hv_36, h⟩ := h
          refine fg_X0_224 hx hb hts hown hK hP hv_36 dX0_checkGroups_117 ?_
          refine lv_iload_n hx hb dX0_checkGroups_120 rfl (lv_at hl 3 rfl) ?_
          replace h := ob h; obtain ⟨v_37, hv_37, h⟩ := h
          refine ald2 hx hb hK hP rfl hv_37 dX0_checkGroups_121 ?_
          refine lv_iconst (v := 0) hx hb dX0_checkGroups_122 (by decide) ?_
          replace h := ob h; obtain ⟨w_39, hw_39, h⟩ := h
          replace h := ob h; obtain ⟨v_38, hv_38, h⟩ := h
          refine ccI (As := [.long v_37, .int 0]) hx hb hml hts hown hK hP hD hS hA hZ (X := 3) (by decide) rfl (ckE_some hw_39) (sc_X2_find l dC dI cB cI cJ cZ cS cO b K V fz F cs_34 i_20 v_37 0 v_38 hv_38) (cw_X0_X2_find hts (fr := 1) (Nat.le_of_ble_eq_true rfl) (Nat.le_of_ble_eq_true rfl)) rfl hl.1 (Nat.le_of_ble_eq_true rfl) ⟨Nat.zero_le _, Nat.zero_le _⟩ dX0_checkGroups_123 (fun H locs hP hD hS => ?_)
          refine lv_iload_n hx hb dX0_checkGroups_126 rfl (lv_at hl 3 rfl) ?_
          refine lv_icmp_ge (tgt := 144) hx hb dX0_checkGroups_127 (by decide) (fun c_40 => ?_) (fun c_40 => ?_)
          · skip
            replace h := (if_pos c_40).symm.trans h
            exact B_144 cs_34 u0 u1 i_20 u3 h _ _ _ hP hD hS (lv_sub hl [0, 1, 2, 3] rfl)
          · skip
            replace h := (if_neg c_40).symm.trans h
            refine lv_aload_n hx hb dX0_checkGroups_130 rfl (lv_at hl 0 rfl) ?_
            replace h := ob h; obtain ⟨v_41, hv_41, h⟩ := h
            refine fg_X0_9 hx hb hts hown hK hP hv_41 dX0_checkGroups_131 ?_
            refine lv_iconst (v := 2) hx hb dX0_checkGroups_134 (by decide) ?_
            refine lv_aload_n hx hb dX0_checkGroups_135 rfl (lv_at hl 2 rfl) ?_
            replace h := ob h; obtain ⟨v_42, hv_42, h⟩ := h
            refine fg_X0_265 hx hb hts hown hK hP hv_42 dX0_checkGroups_136 ?_
            refine lv_iload_n hx hb dX0_checkGroups_139 rfl (lv_at hl 3 rfl) ?_
            replace h := ob h; obtain ⟨v_43, hv_43, h⟩ := h
            refine ald0 hx hb hK hP rfl hv_43 dX0_checkGroups_140 ?_
            replace h := ob h; obtain ⟨i_45, hi_45, h⟩ := h
            subst hi_45
            replace h := ob h; obtain ⟨w_46, hw_46, h⟩ := h
            replace h := ob h; obtain ⟨cs_44, hv_44, h⟩ := h
            refine ccV (As := [.int 2, .int v_43]) hx hb hml hts hown hK hP hD hS hA hZ (X := 10) (by decide) rfl (ckE_some hw_46) (sc_X9_refuse l dC dI cB cI cJ cZ cS cO b K V fz F cs_34 i_45 2 v_43 cs_44 hv_44) (cw_X0_X9_refuse hts (fr := 0) (Nat.le_of_ble_eq_true rfl) (Nat.le_of_ble_eq_true rfl)) rfl hl.1 (Nat.le_of_ble_eq_true rfl) ⟨Nat.zero_le _, Nat.zero_le _⟩ dX0_checkGroups_141 (fun H locs hP hD hS => ?_)
            exact B_144 cs_44 u0 u1 i_20 u3 h _ _ _ hP hD hS (lv_sub hl [0, 1, 2, 3] rfl)
  have B_72 : ∀ (cs1 : CS) (u0 : Nat) (u1 : Nat) (u2 : Option Nat), c_X0_checkGroups_b72 F cs1 u0 u1 u2 = some cs9 → ∀ (H : Heap) (locs : List Loc) (ls : Array Slot), va_P (dC, dI) vwCl (cW cB cI cJ cZ cS cO b cs1) H → va_D A (cW cB cI cJ cZ cS cO b cs1) → va_S A s.heap H locs → lv_has ls 4 [(0, .ref (b + u0)), (1, .ref (b + u1)), (2, rv b u2)] → W p l e (headSpec (wsOf yX0_checkGroups cX0_checkGroups 4 none) ({ frames := 4, cells := 0, slots := 0, locals := 60 * (4) } : Room)).room s m ([.ref (b + x0), .ref (b + x1)] : List Value).toArray below meth c H locs 0 0 (MQ below (va_Qv (fun (_ : Unit) => True) (fun _ t_ => va_P (dC, dI) vwCl (cW cB cI cJ cZ cS cO b cs9) t_.heap ∧ va_D A (cW cB cI cJ cZ cS cO b cs9)) A) ([.ref (b + x0), .ref (b + x1)] : List Value).toArray s 0 0 A) (F0 m 72 ls []) := by
    intro cs1 u0 u1 u2 h H locs ls hP hD hS hl
    unfold c_X0_checkGroups_b72 at h
    refine lv_iconst (v := 0) hx hb dX0_checkGroups_72 (by decide) ?_
    refine lv_istore_n (lv' := [(3, .int 0), (0, .ref (b + u0)), (1, .ref (b + u1)), (2, rv b u2)]) hx hb dX0_checkGroups_73 rfl hl (by decide) (by cases u2 <;> rfl) (fun ls hl => ?_)
    exact L_74 F cs1 u0 u1 u2 0 h _ _ _ hP hD hS (lv_sub hl [1, 2, 3, 0] rfl)
  have h := hf
  unfold c_X0_checkGroups at h
  refine lv_aload_n hx hb dX0_checkGroups_0 rfl (lv_at hl 1 rfl) ?_
  replace h := ob h; obtain ⟨v_47, hv_47, h⟩ := h
  refine fg_X0_141 hx hb hts hown hK hP hv_47 dX0_checkGroups_1 ?_
  refine lv_astore_nO (lv' := [(2, rv b v_47), (0, .ref (b + x0)), (1, .ref (b + x1))]) hx hb dX0_checkGroups_4 rfl hl (by decide) rfl (fun ls hl => ?_)
  refine lv_aload_n hx hb dX0_checkGroups_5 rfl (lv_at hl 2 rfl) ?_
  replace h := ob h; obtain ⟨v_48, hv_48, h⟩ := h
  refine fg_X0_231 hx hb hts hown hK hP hv_48 dX0_checkGroups_6 ?_
  refine lv_if_eq (tgt := 27) hx hb dX0_checkGroups_9 (by decide) (fun c_49 => ?_) (fun c_49 => ?_)
  · skip
    replace h := (if_pos c_49).symm.trans h
    refine lv_aload_n hx hb dX0_checkGroups_27 rfl (lv_at hl 2 rfl) ?_
    replace h := ob h; obtain ⟨v_50, hv_50, h⟩ := h
    refine fg_X0_237 hx hb hts hown hK hP hv_50 dX0_checkGroups_28 ?_
    refine lv_if_le (tgt := 72) hx hb dX0_checkGroups_31 (by decide) (fun c_51 => ?_) (fun c_51 => ?_)
    · skip
      replace h := (if_pos c_51).symm.trans h
      exact B_72 cs x0 x1 v_47 h _ _ _ hP hD hS (lv_sub hl [1, 2, 0] rfl)
    · skip
      replace h := (if_neg c_51).symm.trans h
      refine lv_aload_n hx hb dX0_checkGroups_34 rfl (lv_at hl 1 rfl) ?_
      replace h := ob h; obtain ⟨v_52, hv_52, h⟩ := h
      refine fg_X0_25 hx hb hts hown hK hP hv_52 dX0_checkGroups_35 ?_
      refine lv_aload_n hx hb dX0_checkGroups_38 rfl (lv_at hl 2 rfl) ?_
      replace h := ob h; obtain ⟨v_53, hv_53, h⟩ := h
      refine fg_X0_240 hx hb hts hown hK hP hv_53 dX0_checkGroups_39 ?_
      refine lv_iconst (v := 0) hx hb dX0_checkGroups_42 (by decide) ?_
      replace h := ob h; obtain ⟨v_54, hv_54, h⟩ := h
      refine ald0 hx hb hK hP rfl hv_54 dX0_checkGroups_43 ?_
      replace h := ob h; obtain ⟨i_56, hi_56, h⟩ := h
      subst hi_56
      replace h := ob h; obtain ⟨w_57, hw_57, h⟩ := h
      replace h := ob h; obtain ⟨v_55, hv_55, h⟩ := h
      refine ccI (As := [.int v_54]) hx hb hml hts hown hK hP hD hS hA hZ (X := 2) (by decide) rfl (ckE_some hw_57) (sc_X1_has l dC dI cB cI cJ cZ cS cO b K V fz F cs i_56 v_54 v_55 hv_55) (cw_X0_X1_has hts (fr := 0) (Nat.le_of_ble_eq_true rfl) (Nat.le_of_ble_eq_true rfl)) rfl hl.1 (Nat.le_of_ble_eq_true rfl) ⟨Nat.zero_le _, Nat.zero_le _⟩ dX0_checkGroups_44 (fun H locs hP hD hS => ?_)
      refine lv_if_eq (tgt := 72) hx hb dX0_checkGroups_47 (by decide) (fun c_58 => ?_) (fun c_58 => ?_)
      · skip
        replace h := (if_pos c_58).symm.trans h
        exact B_72 cs x0 x1 v_47 h _ _ _ hP hD hS (lv_sub hl [1, 2, 0] rfl)
      · skip
        replace h := (if_neg c_58).symm.trans h
        refine lv_aload_n hx hb dX0_checkGroups_50 rfl (lv_at hl 1 rfl) ?_
        refine lv_aload_n hx hb dX0_checkGroups_51 rfl (lv_at hl 2 rfl) ?_
        replace h := ob h; obtain ⟨v_59, hv_59, h⟩ := h
        refine fg_X0_60 hx hb hts hown hK hP hv_59 dX0_checkGroups_52 ?_
        refine lv_aload_n hx hb dX0_checkGroups_55 rfl (lv_at hl 1 rfl) ?_
        replace h := ob h; obtain ⟨v_60, hv_60, h⟩ := h
        refine fg_X0_25 hx hb hts hown hK hP hv_60 dX0_checkGroups_56 ?_
        replace h := ob h; obtain ⟨i_61, hi_61, h⟩ := h
        subst hi_61
        replace h := ob h; obtain ⟨v_62, hv_62, h⟩ := h
        refine fg_X0_246 hx hb hts hown hK hP hv_62 dX0_checkGroups_59 ?_
        refine lv_aload_n hx hb dX0_checkGroups_62 rfl (lv_at hl 2 rfl) ?_
        replace h := ob h; obtain ⟨v_63, hv_63, h⟩ := h
        refine fg_X0_240 hx hb hts hown hK hP hv_63 dX0_checkGroups_63 ?_
        refine lv_iconst (v := 0) hx hb dX0_checkGroups_66 (by decide) ?_
        replace h := ob h; obtain ⟨v_64, hv_64, h⟩ := h
        refine ald0 hx hb hK hP rfl hv_64 dX0_checkGroups_67 ?_
        replace h := ob h; obtain ⟨v_65, hv_65, h⟩ := h
        refine ald0 hx hb hK hP rfl hv_65 dX0_checkGroups_68 ?_
        replace h := ob h; obtain ⟨w_67, hw_67, h⟩ := h
        replace h := ob h; obtain ⟨cs_66, hv_66, h⟩ := h
        refine ccV (As := [.int v_59, .int v_65]) hx hb hml hts hown hK hP hD hS hA hZ (X := 1) (by decide) rfl (ckE_some hw_67) (sc_X0_checkBound l dC dI cB cI cJ cZ cS cO b K V fz F cs x0 v_59 v_65 cs_66 hv_66) (cw_X0_X0_checkBound hts (fr := 1) (Nat.le_of_ble_eq_true rfl) (Nat.le_of_ble_eq_true rfl)) rfl hl.1 (Nat.le_of_ble_eq_true rfl) ⟨Nat.zero_le _, Nat.zero_le _⟩ dX0_checkGroups_69 (fun H locs hP hD hS => ?_)
        exact B_72 cs_66 x0 x1 v_47 h _ _ _ hP hD hS (lv_sub hl [1, 2, 0] rfl)
  · skip
    replace h := (if_neg c_49).symm.trans h
    refine lv_aload_n hx hb dX0_checkGroups_12 rfl (lv_at hl 1 rfl) ?_
    refine lv_aload_n hx hb dX0_checkGroups_13 rfl (lv_at hl 2 rfl) ?_
    replace h := ob h; obtain ⟨v_68, hv_68, h⟩ := h
    refine fg_X0_60 hx hb hts hown hK hP hv_68 dX0_checkGroups_14 ?_
    refine lv_aload_n hx hb dX0_checkGroups_17 rfl (lv_at hl 2 rfl) ?_
    replace h := ob h; obtain ⟨v_69, hv_69, h⟩ := h
    refine fg_X0_234 hx hb hts hown hK hP hv_69 dX0_checkGroups_18 ?_
    replace h := ob h; obtain ⟨w_71, hw_71, h⟩ := h
    replace h := ob h; obtain ⟨cs_70, hv_70, h⟩ := h
    refine ccV (As := [.int v_68, .int v_69]) hx hb hml hts hown hK hP hD hS hA hZ (X := 1) (by decide) rfl (ckE_some hw_71) (sc_X0_checkBound l dC dI cB cI cJ cZ cS cO b K V fz F cs x0 v_68 v_69 cs_70 hv_70) (cw_X0_X0_checkBound hts (fr := 1) (Nat.le_of_ble_eq_true rfl) (Nat.le_of_ble_eq_true rfl)) rfl hl.1 (Nat.le_of_ble_eq_true rfl) ⟨Nat.zero_le _, Nat.zero_le _⟩ dX0_checkGroups_21 (fun H locs hP hD hS => ?_)
    refine lv_goto (tgt := 72) hx hb dX0_checkGroups_24 (by decide) ?_
    exact B_72 cs_70 x0 x1 v_47 h _ _ _ hP hD hS (lv_sub hl [1, 2, 0] rfl)
theorem dX0_checkColumns_0 : decode cX0_checkColumns 0 = .ok (.iconst 0, 1) := by decide +kernel
theorem dX0_checkColumns_1 : decode cX0_checkColumns 1 = .ok (.istore_n 2, 1) := by decide +kernel
theorem dX0_checkColumns_2 : decode cX0_checkColumns 2 = .ok (.iload_n 2, 1) := by decide +kernel
theorem dX0_checkColumns_3 : decode cX0_checkColumns 3 = .ok (.aload_n 1, 1) := by decide +kernel
theorem dX0_checkColumns_4 : decode cX0_checkColumns 4 = .ok (.getfield 186, 3) := by decide +kernel
theorem dX0_checkColumns_7 : decode cX0_checkColumns 7 = .ok (.if_icmp .ge 42, 3) := by decide +kernel
theorem dX0_checkColumns_10 : decode cX0_checkColumns 10 = .ok (.aload_n 1, 1) := by decide +kernel
theorem dX0_checkColumns_11 : decode cX0_checkColumns 11 = .ok (.iload_n 2, 1) := by decide +kernel
theorem dX0_checkColumns_12 : decode cX0_checkColumns 12 = .ok (.invokevirtual 221, 3) := by decide +kernel
theorem dX0_checkColumns_15 : decode cX0_checkColumns 15 = .ok (.ifCond .eq 34, 3) := by decide +kernel
theorem dX0_checkColumns_18 : decode cX0_checkColumns 18 = .ok (.aload_n 0, 1) := by decide +kernel
theorem dX0_checkColumns_19 : decode cX0_checkColumns 19 = .ok (.aload_n 1, 1) := by decide +kernel
theorem dX0_checkColumns_20 : decode cX0_checkColumns 20 = .ok (.getfield 249, 3) := by decide +kernel
theorem dX0_checkColumns_23 : decode cX0_checkColumns 23 = .ok (.iload_n 2, 1) := by decide +kernel
theorem dX0_checkColumns_24 : decode cX0_checkColumns 24 = .ok (.iaload, 1) := by decide +kernel
theorem dX0_checkColumns_25 : decode cX0_checkColumns 25 = .ok (.invokevirtual 252, 3) := by decide +kernel
theorem dX0_checkColumns_28 : decode cX0_checkColumns 28 = .ok (.aload_n 1, 1) := by decide +kernel
theorem dX0_checkColumns_29 : decode cX0_checkColumns 29 = .ok (.iload_n 2, 1) := by decide +kernel
theorem dX0_checkColumns_30 : decode cX0_checkColumns 30 = .ok (.aload_n 0, 1) := by decide +kernel
theorem dX0_checkColumns_31 : decode cX0_checkColumns 31 = .ok (.aload_n 1, 1) := by decide +kernel
theorem dX0_checkColumns_32 : decode cX0_checkColumns 32 = .ok (.getfield 249, 3) := by decide +kernel
theorem dX0_checkColumns_35 : decode cX0_checkColumns 35 = .ok (.iload_n 2, 1) := by decide +kernel
theorem dX0_checkColumns_36 : decode cX0_checkColumns 36 = .ok (.iaload, 1) := by decide +kernel
theorem dX0_checkColumns_37 : decode cX0_checkColumns 37 = .ok (.invokevirtual 255, 3) := by decide +kernel
theorem dX0_checkColumns_40 : decode cX0_checkColumns 40 = .ok (.invokevirtual 258, 3) := by decide +kernel
theorem dX0_checkColumns_43 : decode cX0_checkColumns 43 = .ok (.iinc 2 1, 3) := by decide +kernel
theorem dX0_checkColumns_46 : decode cX0_checkColumns 46 = .ok (.goto (-44), 3) := by decide +kernel
theorem dX0_checkColumns_49 : decode cX0_checkColumns 49 = .ok (.return_, 1) := by decide +kernel
def c_X0_checkColumns_b49 (F : Nat) (cs1 : CS) : Option CS := some cs1
def c_X0_checkColumns_L2 (F : Nat) : Nat → CS → Nat → Nat → Int32 → Option CS
  | 0, _, _, _, _ => none
  | lf_2 + 1, cs1, u0, u1, u2 => Option.bind (gI cs1 3 96 u1) fun v_1 => if v_1 ≤ u2 then (c_X0_checkColumns_b49 F cs1) else (Option.bind (ckE cs1 3 u1) fun _ => Option.bind (c_X2_has F cs1 u1 u2) fun v_3 => if v_3 = 0 then (c_X0_checkColumns_b49 F cs1) else (Option.bind (gA cs1 3 97 u1) fun v_6 => Option.bind (rA cs1 97 u1 v_6 u2) fun v_7 => Option.bind (ckE cs1 1 u0) fun _ => Option.bind (c_X0_checkExpr F cs1 u0 v_7) fun cs_8 => Option.bind (gA cs_8 3 97 u1) fun v_10 => Option.bind (rA cs_8 97 u1 v_10 u2) fun v_11 => Option.bind (ckE cs_8 1 u0) fun _ => Option.bind (c_X0_typeOf F cs_8 u0 v_11) fun v_12 => Option.bind (ckE cs_8 3 u1) fun _ => Option.bind (c_X2_settleType F cs_8 u1 u2 v_12) fun cs_14 => (c_X0_checkColumns_L2 F lf_2) cs_14 u0 u1 (u2 + 1)))
def c_X0_checkColumns (F : Nat) (cs : CS) (x0 : Nat) (x1 : Nat) : Option CS := c_X0_checkColumns_L2 F F cs x0 x1 0
theorem cw_X0_X0_checkColumns {R : Room} {s : State} {args : Array Value} {y0 : MethodName} {c0 : ByteArray} {n0 : Nat} {r0 : Option FieldType} (hts : ∀ w ∈ wsOf y0 c0 n0 r0, w.before args s = true) {fr : Nat} (h1 : fr + 1 ≤ R.frames) (h2 : 8 + (3 + 11) + 60 * fr ≤ R.locals) : CallW R s args RX0 RX0 106 yX0_checkColumns cX0_checkColumns 3 none (wsOf yX0_checkColumns cX0_checkColumns 3 none) ({ frames := fr, cells := 0, slots := 0, locals := 60 * fr } : Room) 0 0 1 := cwV 1 hts (gd_all (in_V kw_1293 kw_1295 kw_62 kw_204 kc_X0_checkColumns)) rfl rfl rfl (by decide +kernel) ⟨h1, h2⟩
set_option maxHeartbeats 4000000 in
set_option maxRecDepth 100000 in
theorem sc_X0_checkColumns (l : Launch) (dC : Nat → ClassId) (dI : Nat → Nat → Nat) (cB cI cJ cZ cS cO : ClassId) (b : Nat) (K V : Nat → Nat) (fz : Value) (F : Nat) (cs : CS) (x0 : Nat) (x1 : Nat) (cs9 : CS) (hf : c_X0_checkColumns F cs x0 x1 = some cs9) : ocV l dC dI cB cI cJ cZ cS cO b K V fz yX0_checkColumns (wsOf yX0_checkColumns cX0_checkColumns 3 none) (4) [.ref (b + x0), .ref (b + x1)] cs cs9 := by
  intro sz
  refine Met.ofW (cc := cX0_checkColumns) (maxL := 3) (ret := none) (by decide) rfl ?_
  intro p e s m args below meth c s₁ B hml hv
  obtain ⟨rfl, hsz, hP, hK, hD0, hZ⟩ := hv
  have hx := B.exec
  have hb := B.bytes
  have hr := B.returns
  have hts := atoms_spec (ws := (wsOf yX0_checkColumns cX0_checkColumns 3 none)) B.pre
  have hown : s.vm.findClass RX0 = some m.cls := findClass_of_methodNamed B.named
  have hlocks := B.notSynchronized
  subst hsz
  have hD := hD0.self (sz := s.heap.size)
  generalize hAe : va_A (cW cB cI cJ cZ cS cO b cs) s.heap.size = A at hD hZ ⊢
  have hA : ∀ q : Nat, s.heap.size ≤ q → A q := fun q h => by rw [← hAe]; exact Or.inr h
  have hS : va_S A s.heap s.heap [] := va_S.rf
  have hl := lv_entry ([.ref (b + x0), .ref (b + x1)]) (n := 3) (Nat.le_of_ble_eq_true rfl)
  rw [lg_entry_eq]
  generalize (lg_sl ([.ref (b + x0), .ref (b + x1)]) ++ List.replicate (3 - (lg_sl ([.ref (b + x0), .ref (b + x1)])).length) Slot.unset).toArray = ls at hl ⊢
  have hl : lv_has ls 3 [(0, .ref (b + x0)), (1, .ref (b + x1))] := hl
  have B_49 : ∀ (cs1 : CS) , c_X0_checkColumns_b49 F cs1 = some cs9 → ∀ (H : Heap) (locs : List Loc) (ls : Array Slot), va_P (dC, dI) vwCl (cW cB cI cJ cZ cS cO b cs1) H → va_D A (cW cB cI cJ cZ cS cO b cs1) → va_S A s.heap H locs → lv_has ls 3 [] → W p l e (headSpec (wsOf yX0_checkColumns cX0_checkColumns 3 none) ({ frames := 4, cells := 0, slots := 0, locals := 60 * (4) } : Room)).room s m ([.ref (b + x0), .ref (b + x1)] : List Value).toArray below meth c H locs 0 0 (MQ below (va_Qv (fun (_ : Unit) => True) (fun _ t_ => va_P (dC, dI) vwCl (cW cB cI cJ cZ cS cO b cs9) t_.heap ∧ va_D A (cW cB cI cJ cZ cS cO b cs9)) A) ([.ref (b + x0), .ref (b + x1)] : List Value).toArray s 0 0 A) (F0 m 49 ls []) := by
    intro cs1  h H locs ls hP hD hS hl
    unfold c_X0_checkColumns_b49 at h
    have e1 := Option.some.inj h
    rw [e1] at hP hD
    exact W.vret hx hb hr (fun t_ ht hW => ⟨⟨(), rfl, trivial, by rw [ht]; exact hP, hD⟩, hS.F ht⟩) hS.2.2 dX0_checkColumns_49
  have L_2 : ∀ (lf_2 : Nat), ∀ (cs1 : CS) (u0 : Nat) (u1 : Nat) (u2 : Int32), c_X0_checkColumns_L2 F lf_2 cs1 u0 u1 u2 = some cs9 → ∀ (H : Heap) (locs : List Loc) (ls : Array Slot), va_P (dC, dI) vwCl (cW cB cI cJ cZ cS cO b cs1) H → va_D A (cW cB cI cJ cZ cS cO b cs1) → va_S A s.heap H locs → lv_has ls 3 [(0, .ref (b + u0)), (1, .ref (b + u1)), (2, .int u2)] → W p l e (headSpec (wsOf yX0_checkColumns cX0_checkColumns 3 none) ({ frames := 4, cells := 0, slots := 0, locals := 60 * (4) } : Room)).room s m ([.ref (b + x0), .ref (b + x1)] : List Value).toArray below meth c H locs 0 0 (MQ below (va_Qv (fun (_ : Unit) => True) (fun _ t_ => va_P (dC, dI) vwCl (cW cB cI cJ cZ cS cO b cs9) t_.heap ∧ va_D A (cW cB cI cJ cZ cS cO b cs9)) A) ([.ref (b + x0), .ref (b + x1)] : List Value).toArray s 0 0 A) (F0 m 2 ls []) := by
    intro lf_2
    induction lf_2 with
    | zero => intro cs1 u0 u1 u2 h; cases (show (none : Option CS) = _ from h)
    | succ lf_2 ih_2 =>
      intro cs1 u0 u1 u2 h H locs ls hP hD hS hl
      rw [c_X0_checkColumns_L2] at h
      refine lv_iload_n hx hb dX0_checkColumns_2 rfl (lv_at hl 2 rfl) ?_
      refine lv_aload_n hx hb dX0_checkColumns_3 rfl (lv_at hl 1 rfl) ?_
      replace h := ob h; obtain ⟨v_1, hv_1, h⟩ := h
      refine fg_X0_186 hx hb hts hown hK hP hv_1 dX0_checkColumns_4 ?_
      refine lv_icmp_ge (tgt := 49) hx hb dX0_checkColumns_7 (by decide) (fun c_2 => ?_) (fun c_2 => ?_)
      · skip
        replace h := (if_pos c_2).symm.trans h
        exact B_49 cs1 h _ _ _ hP hD hS (lv_sub hl [] rfl)
      · skip
        replace h := (if_neg c_2).symm.trans h
        refine lv_aload_n hx hb dX0_checkColumns_10 rfl (lv_at hl 1 rfl) ?_
        refine lv_iload_n hx hb dX0_checkColumns_11 rfl (lv_at hl 2 rfl) ?_
        replace h := ob h; obtain ⟨w_4, hw_4, h⟩ := h
        replace h := ob h; obtain ⟨v_3, hv_3, h⟩ := h
        refine ccI (As := [.int u2]) hx hb hml hts hown hK hP hD hS hA hZ (X := 3) (by decide) rfl (ckE_some hw_4) (sc_X2_has l dC dI cB cI cJ cZ cS cO b K V fz F cs1 u1 u2 v_3 hv_3) (cw_X0_X2_has hts (fr := 0) (Nat.le_of_ble_eq_true rfl) (Nat.le_of_ble_eq_true rfl)) rfl hl.1 (Nat.le_of_ble_eq_true rfl) ⟨Nat.zero_le _, Nat.zero_le _⟩ dX0_checkColumns_12 (fun H locs hP hD hS => ?_)
        refine lv_if_eq (tgt := 49) hx hb dX0_checkColumns_15 (by decide) (fun c_5 => ?_) (fun c_5 => ?_)
        · skip
          replace h := (if_pos c_5).symm.trans h
          exact B_49 cs1 h _ _ _ hP hD hS (lv_sub hl [] rfl)
        · skip
          replace h := (if_neg c_5).symm.trans h
          refine lv_aload_n hx hb dX0_checkColumns_18 rfl (lv_at hl 0 rfl) ?_
          refine lv_aload_n hx hb dX0_checkColumns_19 rfl (lv_at hl 1 rfl) ?_
          replace h := ob h; obtain ⟨v_6, hv_6, h⟩ := h
          refine fg_X0_249 hx hb hts hown hK hP hv_6 dX0_checkColumns_20 ?_
          refine lv_iload_n hx hb dX0_checkColumns_23 rfl (lv_at hl 2 rfl) ?_
          replace h := ob h; obtain ⟨v_7, hv_7, h⟩ := h
          refine ald0 hx hb hK hP rfl hv_7 dX0_checkColumns_24 ?_
          replace h := ob h; obtain ⟨w_9, hw_9, h⟩ := h
          replace h := ob h; obtain ⟨cs_8, hv_8, h⟩ := h
          refine ccV (As := [.int v_7]) hx hb hml hts hown hK hP hD hS hA hZ (X := 1) (by decide) rfl (ckE_some hw_9) (sc_X0_checkExpr l dC dI cB cI cJ cZ cS cO b K V fz F cs1 u0 v_7 cs_8 hv_8) (cw_X0_X0_checkExpr hts (fr := 3) (Nat.le_of_ble_eq_true rfl) (Nat.le_of_ble_eq_true rfl)) rfl hl.1 (Nat.le_of_ble_eq_true rfl) ⟨Nat.zero_le _, Nat.zero_le _⟩ dX0_checkColumns_25 (fun H locs hP hD hS => ?_)
          refine lv_aload_n hx hb dX0_checkColumns_28 rfl (lv_at hl 1 rfl) ?_
          refine lv_iload_n hx hb dX0_checkColumns_29 rfl (lv_at hl 2 rfl) ?_
          refine lv_aload_n hx hb dX0_checkColumns_30 rfl (lv_at hl 0 rfl) ?_
          refine lv_aload_n hx hb dX0_checkColumns_31 rfl (lv_at hl 1 rfl) ?_
          replace h := ob h; obtain ⟨v_10, hv_10, h⟩ := h
          refine fg_X0_249 hx hb hts hown hK hP hv_10 dX0_checkColumns_32 ?_
          refine lv_iload_n hx hb dX0_checkColumns_35 rfl (lv_at hl 2 rfl) ?_
          replace h := ob h; obtain ⟨v_11, hv_11, h⟩ := h
          refine ald0 hx hb hK hP rfl hv_11 dX0_checkColumns_36 ?_
          replace h := ob h; obtain ⟨w_13, hw_13, h⟩ := h
          replace h := ob h; obtain ⟨v_12, hv_12, h⟩ := h
          refine ccI (As := [.int v_11]) hx hb hml hts hown hK hP hD hS hA hZ (X := 1) (by decide) rfl (ckE_some hw_13) (sc_X0_typeOf l dC dI cB cI cJ cZ cS cO b K V fz F cs_8 u0 v_11 v_12 hv_12) (cw_X0_X0_typeOf hts (fr := 1) (Nat.le_of_ble_eq_true rfl) (Nat.le_of_ble_eq_true rfl)) rfl hl.1 (Nat.le_of_ble_eq_true rfl) ⟨Nat.zero_le _, Nat.zero_le _⟩ dX0_checkColumns_37 (fun H locs hP hD hS => ?_)
          replace h := ob h; obtain ⟨w_15, hw_15, h⟩ := h
          replace h := ob h; obtain ⟨cs_14, hv_14, h⟩ := h
          refine ccV (As := [.int u2, .int v_12]) hx hb hml hts hown hK hP hD hS hA hZ (X := 3) (by decide) rfl (ckE_some hw_15) (sc_X2_settleType l dC dI cB cI cJ cZ cS cO b K V fz F cs_8 u1 u2 v_12 cs_14 hv_14) (cw_X0_X2_settleType hts (fr := 1) (Nat.le_of_ble_eq_true rfl) (Nat.le_of_ble_eq_true rfl)) rfl hl.1 (Nat.le_of_ble_eq_true rfl) ⟨Nat.zero_le _, Nat.zero_le _⟩ dX0_checkColumns_40 (fun H locs hP hD hS => ?_)
          refine lv_iinc (v := u2 + 1) (lv' := [(2, .int (u2 + 1)), (0, .ref (b + u0)), (1, .ref (b + u1))]) hx hb dX0_checkColumns_43 hl (k := 2) rfl rfl (by decide) rfl (fun ls hl => ?_)
          refine lv_goto (tgt := 2) hx hb dX0_checkColumns_46 (by decide) ?_
          exact ih_2 cs_14 u0 u1 (u2 + 1) h _ _ _ hP hD hS (lv_sub hl [1, 2, 0] rfl)
  have h := hf
  unfold c_X0_checkColumns at h
  refine lv_iconst (v := 0) hx hb dX0_checkColumns_0 (by decide) ?_
  refine lv_istore_n (lv' := [(2, .int 0), (0, .ref (b + x0)), (1, .ref (b + x1))]) hx hb dX0_checkColumns_1 rfl hl (by decide) rfl (fun ls hl => ?_)
  exact L_2 F cs x0 x1 0 h _ _ _ hP hD hS (lv_sub hl [1, 2, 0] rfl)
theorem dX0_checkSet_0 : decode cX0_checkSet 0 = .ok (.aload_n 2, 1) := by decide +kernel
theorem dX0_checkSet_1 : decode cX0_checkSet 1 = .ok (.getfield 80, 3) := by decide +kernel
theorem dX0_checkSet_4 : decode cX0_checkSet 4 = .ok (.bipush 11, 2) := by decide +kernel
theorem dX0_checkSet_6 : decode cX0_checkSet 6 = .ok (.if_icmp .eq 15, 3) := by decide +kernel
theorem dX0_checkSet_9 : decode cX0_checkSet 9 = .ok (.aload_n 0, 1) := by decide +kernel
theorem dX0_checkSet_10 : decode cX0_checkSet 10 = .ok (.aload_n 1, 1) := by decide +kernel
theorem dX0_checkSet_11 : decode cX0_checkSet 11 = .ok (.getfield 56, 3) := by decide +kernel
theorem dX0_checkSet_14 : decode cX0_checkSet 14 = .ok (.aload_n 2, 1) := by decide +kernel
theorem dX0_checkSet_15 : decode cX0_checkSet 15 = .ok (.getfield 83, 3) := by decide +kernel
theorem dX0_checkSet_18 : decode cX0_checkSet 18 = .ok (.invokevirtual 86, 3) := by decide +kernel
theorem dX0_checkSet_21 : decode cX0_checkSet 21 = .ok (.aload_n 1, 1) := by decide +kernel
theorem dX0_checkSet_22 : decode cX0_checkSet 22 = .ok (.getfield 90, 3) := by decide +kernel
theorem dX0_checkSet_25 : decode cX0_checkSet 25 = .ok (.aload_n 2, 1) := by decide +kernel
theorem dX0_checkSet_26 : decode cX0_checkSet 26 = .ok (.getfield 93, 3) := by decide +kernel
theorem dX0_checkSet_29 : decode cX0_checkSet 29 = .ok (.invokevirtual 94, 3) := by decide +kernel
theorem dX0_checkSet_32 : decode cX0_checkSet 32 = .ok (.ifCond .ne 16, 3) := by decide +kernel
theorem dX0_checkSet_35 : decode cX0_checkSet 35 = .ok (.aload_n 0, 1) := by decide +kernel
theorem dX0_checkSet_36 : decode cX0_checkSet 36 = .ok (.getfield 9, 3) := by decide +kernel
theorem dX0_checkSet_39 : decode cX0_checkSet 39 = .ok (.bipush 6, 2) := by decide +kernel
theorem dX0_checkSet_41 : decode cX0_checkSet 41 = .ok (.aload_n 2, 1) := by decide +kernel
theorem dX0_checkSet_42 : decode cX0_checkSet 42 = .ok (.getfield 83, 3) := by decide +kernel
theorem dX0_checkSet_45 : decode cX0_checkSet 45 = .ok (.invokevirtual 76, 3) := by decide +kernel
theorem dX0_checkSet_48 : decode cX0_checkSet 48 = .ok (.return_, 1) := by decide +kernel
def c_X0_checkSet_b48 (F : Nat) (cs1 : CS) : Option CS := some cs1
def c_X0_checkSet_b21 (F : Nat) (cs1 : CS) (u0 : Nat) (u1 : Nat) (u2 : Nat) : Option CS := Option.bind (gR cs1 4 129 u1) fun v_1 => Option.bind (gR cs1 6 194 u2) fun v_2 => Option.bind (v_2) fun i_3 => Option.bind (v_1) fun i_5 => Option.bind (ckE cs1 3 i_5) fun _ => Option.bind (c_X2_sameTypes F cs1 i_5 i_3) fun v_4 => if v_4 = 0 then (Option.bind (gR cs1 1 32 u0) fun v_8 => Option.bind (gI cs1 6 205 u2) fun v_9 => Option.bind (v_8) fun i_11 => Option.bind (ckE cs1 10 i_11) fun _ => Option.bind (c_X9_refuse F cs1 i_11 6 v_9) fun cs_10 => c_X0_checkSet_b48 F cs_10) else (c_X0_checkSet_b48 F cs1)
def c_X0_checkSet (F : Nat) (cs : CS) (x0 : Nat) (x1 : Nat) (x2 : Nat) : Option CS := Option.bind (gI cs 6 204 x2) fun v_13 => if v_13 = 11 then (c_X0_checkSet_b21 F cs x0 x1 x2) else (Option.bind (gI cs 4 133 x1) fun v_15 => Option.bind (gI cs 6 205 x2) fun v_16 => Option.bind (ckE cs 1 x0) fun _ => Option.bind (c_X0_checkBound F cs x0 v_15 v_16) fun cs_17 => c_X0_checkSet_b21 F cs_17 x0 x1 x2)
theorem cw_X0_X0_checkSet {R : Room} {s : State} {args : Array Value} {y0 : MethodName} {c0 : ByteArray} {n0 : Nat} {r0 : Option FieldType} (hts : ∀ w ∈ wsOf y0 c0 n0 r0, w.before args s = true) {fr : Nat} (h1 : fr + 1 ≤ R.frames) (h2 : 8 + (3 + 11) + 60 * fr ≤ R.locals) : CallW R s args RX0 RX0 61 yX0_checkSet cX0_checkSet 3 none (wsOf yX0_checkSet cX0_checkSet 3 none) ({ frames := fr, cells := 0, slots := 0, locals := 60 * fr } : Room) 0 0 2 := cwV 2 hts (gd_all (in_V kw_1297 kw_1299 kw_63 kw_204 kc_X0_checkSet)) rfl rfl rfl (by decide +kernel) ⟨h1, h2⟩
set_option maxHeartbeats 4000000 in
set_option maxRecDepth 100000 in
theorem sc_X0_checkSet (l : Launch) (dC : Nat → ClassId) (dI : Nat → Nat → Nat) (cB cI cJ cZ cS cO : ClassId) (b : Nat) (K V : Nat → Nat) (fz : Value) (F : Nat) (cs : CS) (x0 : Nat) (x1 : Nat) (x2 : Nat) (cs9 : CS) (hf : c_X0_checkSet F cs x0 x1 x2 = some cs9) : ocV l dC dI cB cI cJ cZ cS cO b K V fz yX0_checkSet (wsOf yX0_checkSet cX0_checkSet 3 none) (2) [.ref (b + x0), .ref (b + x1), .ref (b + x2)] cs cs9 := by
  intro sz
  refine Met.ofW (cc := cX0_checkSet) (maxL := 3) (ret := none) (by decide) rfl ?_
  intro p e s m args below meth c s₁ B hml hv
  obtain ⟨rfl, hsz, hP, hK, hD0, hZ⟩ := hv
  have hx := B.exec
  have hb := B.bytes
  have hr := B.returns
  have hts := atoms_spec (ws := (wsOf yX0_checkSet cX0_checkSet 3 none)) B.pre
  have hown : s.vm.findClass RX0 = some m.cls := findClass_of_methodNamed B.named
  have hlocks := B.notSynchronized
  subst hsz
  have hD := hD0.self (sz := s.heap.size)
  generalize hAe : va_A (cW cB cI cJ cZ cS cO b cs) s.heap.size = A at hD hZ ⊢
  have hA : ∀ q : Nat, s.heap.size ≤ q → A q := fun q h => by rw [← hAe]; exact Or.inr h
  have hS : va_S A s.heap s.heap [] := va_S.rf
  have hl := lv_entry ([.ref (b + x0), .ref (b + x1), .ref (b + x2)]) (n := 3) (Nat.le_of_ble_eq_true rfl)
  rw [lg_entry_eq]
  generalize (lg_sl ([.ref (b + x0), .ref (b + x1), .ref (b + x2)]) ++ List.replicate (3 - (lg_sl ([.ref (b + x0), .ref (b + x1), .ref (b + x2)])).length) Slot.unset).toArray = ls at hl ⊢
  have hl : lv_has ls 3 [(0, .ref (b + x0)), (1, .ref (b + x1)), (2, .ref (b + x2))] := hl
  have B_48 : ∀ (cs1 : CS) , c_X0_checkSet_b48 F cs1 = some cs9 → ∀ (H : Heap) (locs : List Loc) (ls : Array Slot), va_P (dC, dI) vwCl (cW cB cI cJ cZ cS cO b cs1) H → va_D A (cW cB cI cJ cZ cS cO b cs1) → va_S A s.heap H locs → lv_has ls 3 [] → W p l e (headSpec (wsOf yX0_checkSet cX0_checkSet 3 none) ({ frames := 2, cells := 0, slots := 0, locals := 60 * (2) } : Room)).room s m ([.ref (b + x0), .ref (b + x1), .ref (b + x2)] : List Value).toArray below meth c H locs 0 0 (MQ below (va_Qv (fun (_ : Unit) => True) (fun _ t_ => va_P (dC, dI) vwCl (cW cB cI cJ cZ cS cO b cs9) t_.heap ∧ va_D A (cW cB cI cJ cZ cS cO b cs9)) A) ([.ref (b + x0), .ref (b + x1), .ref (b + x2)] : List Value).toArray s 0 0 A) (F0 m 48 ls []) := by
    intro cs1  h H locs ls hP hD hS hl
    unfold c_X0_checkSet_b48 at h
    have e1 := Option.some.inj h
    rw [e1] at hP hD
    exact W.vret hx hb hr (fun t_ ht hW => ⟨⟨(), rfl, trivial, by rw [ht]; exact hP, hD⟩, hS.F ht⟩) hS.2.2 dX0_checkSet_48
  have B_21 : ∀ (cs1 : CS) (u0 : Nat) (u1 : Nat) (u2 : Nat), c_X0_checkSet_b21 F cs1 u0 u1 u2 = some cs9 → ∀ (H : Heap) (locs : List Loc) (ls : Array Slot), va_P (dC, dI) vwCl (cW cB cI cJ cZ cS cO b cs1) H → va_D A (cW cB cI cJ cZ cS cO b cs1) → va_S A s.heap H locs → lv_has ls 3 [(0, .ref (b + u0)), (1, .ref (b + u1)), (2, .ref (b + u2))] → W p l e (headSpec (wsOf yX0_checkSet cX0_checkSet 3 none) ({ frames := 2, cells := 0, slots := 0, locals := 60 * (2) } : Room)).room s m ([.ref (b + x0), .ref (b + x1), .ref (b + x2)] : List Value).toArray below meth c H locs 0 0 (MQ below (va_Qv (fun (_ : Unit) => True) (fun _ t_ => va_P (dC, dI) vwCl (cW cB cI cJ cZ cS cO b cs9) t_.heap ∧ va_D A (cW cB cI cJ cZ cS cO b cs9)) A) ([.ref (b + x0), .ref (b + x1), .ref (b + x2)] : List Value).toArray s 0 0 A) (F0 m 21 ls []) := by
    intro cs1 u0 u1 u2 h H locs ls hP hD hS hl
    unfold c_X0_checkSet_b21 at h
    refine lv_aload_n hx hb dX0_checkSet_21 rfl (lv_at hl 1 rfl) ?_
    replace h := ob h; obtain ⟨v_1, hv_1, h⟩ := h
    refine fg_X0_90 hx hb hts hown hK hP hv_1 dX0_checkSet_22 ?_
    refine lv_aload_n hx hb dX0_checkSet_25 rfl (lv_at hl 2 rfl) ?_
    replace h := ob h; obtain ⟨v_2, hv_2, h⟩ := h
    refine fg_X0_93 hx hb hts hown hK hP hv_2 dX0_checkSet_26 ?_
    replace h := ob h; obtain ⟨i_3, hi_3, h⟩ := h
    subst hi_3
    replace h := ob h; obtain ⟨i_5, hi_5, h⟩ := h
    subst hi_5
    replace h := ob h; obtain ⟨w_6, hw_6, h⟩ := h
    replace h := ob h; obtain ⟨v_4, hv_4, h⟩ := h
    refine ccI (As := [.ref (b + i_3)]) hx hb hml hts hown hK hP hD hS hA hZ (X := 3) (by decide) rfl (ckE_some hw_6) (sc_X2_sameTypes l dC dI cB cI cJ cZ cS cO b K V fz F cs1 i_5 i_3 v_4 hv_4) (cw_X0_X2_sameTypes hts (fr := 0) (Nat.le_of_ble_eq_true rfl) (Nat.le_of_ble_eq_true rfl)) rfl hl.1 (Nat.le_of_ble_eq_true rfl) ⟨Nat.zero_le _, Nat.zero_le _⟩ dX0_checkSet_29 (fun H locs hP hD hS => ?_)
    refine lv_if_ne (tgt := 48) hx hb dX0_checkSet_32 (by decide) (fun c_7 => ?_) (fun c_7 => ?_)
    · skip
      replace h := (if_neg c_7).symm.trans h
      exact B_48 cs1 h _ _ _ hP hD hS (lv_sub hl [] rfl)
    · skip
      replace h := (if_pos c_7).symm.trans h
      refine lv_aload_n hx hb dX0_checkSet_35 rfl (lv_at hl 0 rfl) ?_
      replace h := ob h; obtain ⟨v_8, hv_8, h⟩ := h
      refine fg_X0_9 hx hb hts hown hK hP hv_8 dX0_checkSet_36 ?_
      refine lv_bipush (v := 6) hx hb dX0_checkSet_39 (by decide) ?_
      refine lv_aload_n hx hb dX0_checkSet_41 rfl (lv_at hl 2 rfl) ?_
      replace h := ob h; obtain ⟨v_9, hv_9, h⟩ := h
      refine fg_X0_83 hx hb hts hown hK hP hv_9 dX0_checkSet_42 ?_
      replace h := ob h; obtain ⟨i_11, hi_11, h⟩ := h
      subst hi_11
      replace h := ob h; obtain ⟨w_12, hw_12, h⟩ := h
      replace h := ob h; obtain ⟨cs_10, hv_10, h⟩ := h
      refine ccV (As := [.int 6, .int v_9]) hx hb hml hts hown hK hP hD hS hA hZ (X := 10) (by decide) rfl (ckE_some hw_12) (sc_X9_refuse l dC dI cB cI cJ cZ cS cO b K V fz F cs1 i_11 6 v_9 cs_10 hv_10) (cw_X0_X9_refuse hts (fr := 0) (Nat.le_of_ble_eq_true rfl) (Nat.le_of_ble_eq_true rfl)) rfl hl.1 (Nat.le_of_ble_eq_true rfl) ⟨Nat.zero_le _, Nat.zero_le _⟩ dX0_checkSet_45 (fun H locs hP hD hS => ?_)
      exact B_48 cs_10 h _ _ _ hP hD hS (lv_sub hl [] rfl)
  have h := hf
  unfold c_X0_checkSet at h
  refine lv_aload_n hx hb dX0_checkSet_0 rfl (lv_at hl 2 rfl) ?_
  replace h := ob h; obtain ⟨v_13, hv_13, h⟩ := h
  refine fg_X0_80 hx hb hts hown hK hP hv_13 dX0_checkSet_1 ?_
  refine lv_bipush (v := 11) hx hb dX0_checkSet_4 (by decide) ?_
  refine lv_icmp_eq (tgt := 21) hx hb dX0_checkSet_6 (by decide) (fun c_14 => ?_) (fun c_14 => ?_)
  · skip
    replace h := (if_pos c_14).symm.trans h
    exact B_21 cs x0 x1 x2 h _ _ _ hP hD hS (lv_sub hl [0, 1, 2] rfl)
  · skip
    replace h := (if_neg c_14).symm.trans h
    refine lv_aload_n hx hb dX0_checkSet_9 rfl (lv_at hl 0 rfl) ?_
    refine lv_aload_n hx hb dX0_checkSet_10 rfl (lv_at hl 1 rfl) ?_
    replace h := ob h; obtain ⟨v_15, hv_15, h⟩ := h
    refine fg_X0_56 hx hb hts hown hK hP hv_15 dX0_checkSet_11 ?_
    refine lv_aload_n hx hb dX0_checkSet_14 rfl (lv_at hl 2 rfl) ?_
    replace h := ob h; obtain ⟨v_16, hv_16, h⟩ := h
    refine fg_X0_83 hx hb hts hown hK hP hv_16 dX0_checkSet_15 ?_
    replace h := ob h; obtain ⟨w_18, hw_18, h⟩ := h
    replace h := ob h; obtain ⟨cs_17, hv_17, h⟩ := h
    refine ccV (As := [.int v_15, .int v_16]) hx hb hml hts hown hK hP hD hS hA hZ (X := 1) (by decide) rfl (ckE_some hw_18) (sc_X0_checkBound l dC dI cB cI cJ cZ cS cO b K V fz F cs x0 v_15 v_16 cs_17 hv_17) (cw_X0_X0_checkBound hts (fr := 1) (Nat.le_of_ble_eq_true rfl) (Nat.le_of_ble_eq_true rfl)) rfl hl.1 (Nat.le_of_ble_eq_true rfl) ⟨Nat.zero_le _, Nat.zero_le _⟩ dX0_checkSet_18 (fun H locs hP hD hS => ?_)
    exact B_21 cs_17 x0 x1 x2 h _ _ _ hP hD hS (lv_sub hl [0, 1, 2] rfl)
theorem dX0_checkOrder_0 : decode cX0_checkOrder 0 = .ok (.aload_n 0, 1) := by decide +kernel
theorem dX0_checkOrder_1 : decode cX0_checkOrder 1 = .ok (.aload_n 1, 1) := by decide +kernel
theorem dX0_checkOrder_2 : decode cX0_checkOrder 2 = .ok (.getfield 56, 3) := by decide +kernel
theorem dX0_checkOrder_5 : decode cX0_checkOrder 5 = .ok (.aload_n 1, 1) := by decide +kernel
theorem dX0_checkOrder_6 : decode cX0_checkOrder 6 = .ok (.getfield 100, 3) := by decide +kernel
theorem dX0_checkOrder_9 : decode cX0_checkOrder 9 = .ok (.invokevirtual 86, 3) := by decide +kernel
theorem dX0_checkOrder_12 : decode cX0_checkOrder 12 = .ok (.aload_n 0, 1) := by decide +kernel
theorem dX0_checkOrder_13 : decode cX0_checkOrder 13 = .ok (.aload_n 1, 1) := by decide +kernel
theorem dX0_checkOrder_14 : decode cX0_checkOrder 14 = .ok (.getfield 90, 3) := by decide +kernel
theorem dX0_checkOrder_17 : decode cX0_checkOrder 17 = .ok (.putfield 103, 3) := by decide +kernel
theorem dX0_checkOrder_20 : decode cX0_checkOrder 20 = .ok (.aload_n 0, 1) := by decide +kernel
theorem dX0_checkOrder_21 : decode cX0_checkOrder 21 = .ok (.aload_n 2, 1) := by decide +kernel
theorem dX0_checkOrder_22 : decode cX0_checkOrder 22 = .ok (.invokevirtual 106, 3) := by decide +kernel
theorem dX0_checkOrder_25 : decode cX0_checkOrder 25 = .ok (.return_, 1) := by decide +kernel
def c_X0_checkOrder (F : Nat) (cs : CS) (x0 : Nat) (x1 : Nat) (x2 : Nat) : Option CS := Option.bind (gI cs 4 133 x1) fun v_1 => Option.bind (gI cs 4 131 x1) fun v_2 => Option.bind (ckE cs 1 x0) fun _ => Option.bind (c_X0_checkBound F cs x0 v_1 v_2) fun cs_3 => Option.bind (gR cs_3 4 129 x1) fun v_5 => Option.bind (pR cs_3 1 37 x0 v_5) fun cs_6 => Option.bind (ckE cs_6 1 x0) fun _ => Option.bind (c_X0_checkColumns F cs_6 x0 x2) fun cs_7 => some cs_7
theorem cw_X0_X0_checkOrder {R : Room} {s : State} {args : Array Value} {y0 : MethodName} {c0 : ByteArray} {n0 : Nat} {r0 : Option FieldType} (hts : ∀ w ∈ wsOf y0 c0 n0 r0, w.before args s = true) {fr : Nat} (h1 : fr + 1 ≤ R.frames) (h2 : 8 + (3 + 11) + 60 * fr ≤ R.locals) : CallW R s args RX0 RX0 69 yX0_checkOrder cX0_checkOrder 3 none (wsOf yX0_checkOrder cX0_checkOrder 3 none) ({ frames := fr, cells := 0, slots := 0, locals := 60 * fr } : Room) 0 0 2 := cwV 2 hts (gd_all (in_V kw_1305 kw_1307 kw_64 kw_204 kc_X0_checkOrder)) rfl rfl rfl (by decide +kernel) ⟨h1, h2⟩
set_option maxHeartbeats 4000000 in
set_option maxRecDepth 100000 in
theorem sc_X0_checkOrder (l : Launch) (dC : Nat → ClassId) (dI : Nat → Nat → Nat) (cB cI cJ cZ cS cO : ClassId) (b : Nat) (K V : Nat → Nat) (fz : Value) (F : Nat) (cs : CS) (x0 : Nat) (x1 : Nat) (x2 : Nat) (cs9 : CS) (hf : c_X0_checkOrder F cs x0 x1 x2 = some cs9) : ocV l dC dI cB cI cJ cZ cS cO b K V fz yX0_checkOrder (wsOf yX0_checkOrder cX0_checkOrder 3 none) (5) [.ref (b + x0), .ref (b + x1), .ref (b + x2)] cs cs9 := by
  intro sz
  refine Met.ofW (cc := cX0_checkOrder) (maxL := 3) (ret := none) (by decide) rfl ?_
  intro p e s m args below meth c s₁ B hml hv
  obtain ⟨rfl, hsz, hP, hK, hD0, hZ⟩ := hv
  have hx := B.exec
  have hb := B.bytes
  have hr := B.returns
  have hts := atoms_spec (ws := (wsOf yX0_checkOrder cX0_checkOrder 3 none)) B.pre
  have hown : s.vm.findClass RX0 = some m.cls := findClass_of_methodNamed B.named
  have hlocks := B.notSynchronized
  subst hsz
  have hD := hD0.self (sz := s.heap.size)
  generalize hAe : va_A (cW cB cI cJ cZ cS cO b cs) s.heap.size = A at hD hZ ⊢
  have hA : ∀ q : Nat, s.heap.size ≤ q → A q := fun q h => by rw [← hAe]; exact Or.inr h
  have hS : va_S A s.heap s.heap [] := va_S.rf
  have hl := lv_entry ([.ref (b + x0), .ref (b + x1), .ref (b + x2)]) (n := 3) (Nat.le_of_ble_eq_true rfl)
  rw [lg_entry_eq]
  generalize (lg_sl ([.ref (b + x0), .ref (b + x1), .ref (b + x2)]) ++ List.replicate (3 - (lg_sl ([.ref (b + x0), .ref (b + x1), .ref (b + x2)])).length) Slot.unset).toArray = ls at hl ⊢
  have hl : lv_has ls 3 [(0, .ref (b + x0)), (1, .ref (b + x1)), (2, .ref (b + x2))] := hl
  have h := hf
  unfold c_X0_checkOrder at h
  refine lv_aload_n hx hb dX0_checkOrder_0 rfl (lv_at hl 0 rfl) ?_
  refine lv_aload_n hx hb dX0_checkOrder_1 rfl (lv_at hl 1 rfl) ?_
  replace h := ob h; obtain ⟨v_1, hv_1, h⟩ := h
  refine fg_X0_56 hx hb hts hown hK hP hv_1 dX0_checkOrder_2 ?_
  refine lv_aload_n hx hb dX0_checkOrder_5 rfl (lv_at hl 1 rfl) ?_
  replace h := ob h; obtain ⟨v_2, hv_2, h⟩ := h
  refine fg_X0_100 hx hb hts hown hK hP hv_2 dX0_checkOrder_6 ?_
  replace h := ob h; obtain ⟨w_4, hw_4, h⟩ := h
  replace h := ob h; obtain ⟨cs_3, hv_3, h⟩ := h
  refine ccV (As := [.int v_1, .int v_2]) hx hb hml hts hown hK hP hD hS hA hZ (X := 1) (by decide) rfl (ckE_some hw_4) (sc_X0_checkBound l dC dI cB cI cJ cZ cS cO b K V fz F cs x0 v_1 v_2 cs_3 hv_3) (cw_X0_X0_checkBound hts (fr := 1) (Nat.le_of_ble_eq_true rfl) (Nat.le_of_ble_eq_true rfl)) rfl hl.1 (Nat.le_of_ble_eq_true rfl) ⟨Nat.zero_le _, Nat.zero_le _⟩ dX0_checkOrder_9 (fun H locs hP hD hS => ?_)
  refine lv_aload_n hx hb dX0_checkOrder_12 rfl (lv_at hl 0 rfl) ?_
  refine lv_aload_n hx hb dX0_checkOrder_13 rfl (lv_at hl 1 rfl) ?_
  replace h := ob h; obtain ⟨v_5, hv_5, h⟩ := h
  refine fg_X0_90 hx hb hts hown hK hP hv_5 dX0_checkOrder_14 ?_
  replace h := ob h; obtain ⟨cs_6, hv_6, h⟩ := h
  refine fp_X0_103 (v := v_5) hx hb hts hown hK hP hD hS hv_6 dX0_checkOrder_17 (fun H locs hP hD hS => ?_)
  refine lv_aload_n hx hb dX0_checkOrder_20 rfl (lv_at hl 0 rfl) ?_
  refine lv_aload_n hx hb dX0_checkOrder_21 rfl (lv_at hl 2 rfl) ?_
  replace h := ob h; obtain ⟨w_8, hw_8, h⟩ := h
  replace h := ob h; obtain ⟨cs_7, hv_7, h⟩ := h
  refine ccV (As := [.ref (b + x2)]) hx hb hml hts hown hK hP hD hS hA hZ (X := 1) (by decide) rfl (ckE_some hw_8) (sc_X0_checkColumns l dC dI cB cI cJ cZ cS cO b K V fz F cs_6 x0 x2 cs_7 hv_7) (cw_X0_X0_checkColumns hts (fr := 4) (Nat.le_of_ble_eq_true rfl) (Nat.le_of_ble_eq_true rfl)) rfl hl.1 (Nat.le_of_ble_eq_true rfl) ⟨Nat.zero_le _, Nat.zero_le _⟩ dX0_checkOrder_22 (fun H locs hP hD hS => ?_)
  have e1 := Option.some.inj h
  rw [e1] at hP hD
  exact W.vret hx hb hr (fun t_ ht hW => ⟨⟨(), rfl, trivial, by rw [ht]; exact hP, hD⟩, hS.F ht⟩) hS.2.2 dX0_checkOrder_25
abbrev TC_X0_checkQuery : Type := (CS → Nat → Nat → Option CS) × (CS → Nat → Nat → Option CS) × (CS → Nat → Nat → Int32 → Option CS) × (CS → Nat → Nat → Nat → Option CS)
theorem dX0_checkQuery_0 : decode cX0_checkQuery 0 = .ok (.iconst 0, 1) := by decide +kernel
theorem dX0_checkQuery_1 : decode cX0_checkQuery 1 = .ok (.istore_n 2, 1) := by decide +kernel
theorem dX0_checkQuery_2 : decode cX0_checkQuery 2 = .ok (.iload_n 2, 1) := by decide +kernel
theorem dX0_checkQuery_3 : decode cX0_checkQuery 3 = .ok (.aload_n 1, 1) := by decide +kernel
theorem dX0_checkQuery_4 : decode cX0_checkQuery 4 = .ok (.getfield 30, 3) := by decide +kernel
theorem dX0_checkQuery_7 : decode cX0_checkQuery 7 = .ok (.invokevirtual 36, 3) := by decide +kernel
theorem dX0_checkQuery_10 : decode cX0_checkQuery 10 = .ok (.if_icmp .ge 66, 3) := by decide +kernel
theorem dX0_checkQuery_13 : decode cX0_checkQuery 13 = .ok (.aload_n 0, 1) := by decide +kernel
theorem dX0_checkQuery_14 : decode cX0_checkQuery 14 = .ok (.invokevirtual 42, 3) := by decide +kernel
theorem dX0_checkQuery_17 : decode cX0_checkQuery 17 = .ok (.ifCond .ne 59, 3) := by decide +kernel
theorem dX0_checkQuery_20 : decode cX0_checkQuery 20 = .ok (.aload_n 1, 1) := by decide +kernel
theorem dX0_checkQuery_21 : decode cX0_checkQuery 21 = .ok (.getfield 30, 3) := by decide +kernel
theorem dX0_checkQuery_24 : decode cX0_checkQuery 24 = .ok (.iload_n 2, 1) := by decide +kernel
theorem dX0_checkQuery_25 : decode cX0_checkQuery 25 = .ok (.invokevirtual 46, 3) := by decide +kernel
theorem dX0_checkQuery_28 : decode cX0_checkQuery 28 = .ok (.checkcast 50, 3) := by decide +kernel
theorem dX0_checkQuery_31 : decode cX0_checkQuery 31 = .ok (.astore_n 3, 1) := by decide +kernel
theorem dX0_checkQuery_32 : decode cX0_checkQuery 32 = .ok (.aload_n 0, 1) := by decide +kernel
theorem dX0_checkQuery_33 : decode cX0_checkQuery 33 = .ok (.aload_n 3, 1) := by decide +kernel
theorem dX0_checkQuery_34 : decode cX0_checkQuery 34 = .ok (.invokevirtual 52, 3) := by decide +kernel
theorem dX0_checkQuery_37 : decode cX0_checkQuery 37 = .ok (.aload_n 1, 1) := by decide +kernel
theorem dX0_checkQuery_38 : decode cX0_checkQuery 38 = .ok (.aload_n 1, 1) := by decide +kernel
theorem dX0_checkQuery_39 : decode cX0_checkQuery 39 = .ok (.getfield 56, 3) := by decide +kernel
theorem dX0_checkQuery_42 : decode cX0_checkQuery 42 = .ok (.ifCond .ne 10, 3) := by decide +kernel
theorem dX0_checkQuery_45 : decode cX0_checkQuery 45 = .ok (.aload_n 3, 1) := by decide +kernel
theorem dX0_checkQuery_46 : decode cX0_checkQuery 46 = .ok (.getfield 60, 3) := by decide +kernel
theorem dX0_checkQuery_49 : decode cX0_checkQuery 49 = .ok (.ifCond .eq 7, 3) := by decide +kernel
theorem dX0_checkQuery_52 : decode cX0_checkQuery 52 = .ok (.iconst 1, 1) := by decide +kernel
theorem dX0_checkQuery_53 : decode cX0_checkQuery 53 = .ok (.goto 4, 3) := by decide +kernel
theorem dX0_checkQuery_56 : decode cX0_checkQuery 56 = .ok (.iconst 0, 1) := by decide +kernel
theorem dX0_checkQuery_57 : decode cX0_checkQuery 57 = .ok (.putfield 56, 3) := by decide +kernel
theorem dX0_checkQuery_60 : decode cX0_checkQuery 60 = .ok (.iload_n 2, 1) := by decide +kernel
theorem dX0_checkQuery_61 : decode cX0_checkQuery 61 = .ok (.ifCond .le 9, 3) := by decide +kernel
theorem dX0_checkQuery_64 : decode cX0_checkQuery 64 = .ok (.aload_n 0, 1) := by decide +kernel
theorem dX0_checkQuery_65 : decode cX0_checkQuery 65 = .ok (.aload_n 1, 1) := by decide +kernel
theorem dX0_checkQuery_66 : decode cX0_checkQuery 66 = .ok (.aload_n 3, 1) := by decide +kernel
theorem dX0_checkQuery_67 : decode cX0_checkQuery 67 = .ok (.invokevirtual 61, 3) := by decide +kernel
theorem dX0_checkQuery_70 : decode cX0_checkQuery 70 = .ok (.iinc 2 1, 3) := by decide +kernel
theorem dX0_checkQuery_73 : decode cX0_checkQuery 73 = .ok (.goto (-71), 3) := by decide +kernel
theorem dX0_checkQuery_76 : decode cX0_checkQuery 76 = .ok (.aload_n 1, 1) := by decide +kernel
theorem dX0_checkQuery_77 : decode cX0_checkQuery 77 = .ok (.getfield 65, 3) := by decide +kernel
theorem dX0_checkQuery_80 : decode cX0_checkQuery 80 = .ok (.ifnull 19, 3) := by decide +kernel
theorem dX0_checkQuery_83 : decode cX0_checkQuery 83 = .ok (.aload_n 0, 1) := by decide +kernel
theorem dX0_checkQuery_84 : decode cX0_checkQuery 84 = .ok (.invokevirtual 42, 3) := by decide +kernel
theorem dX0_checkQuery_87 : decode cX0_checkQuery 87 = .ok (.ifCond .ne 12, 3) := by decide +kernel
theorem dX0_checkQuery_90 : decode cX0_checkQuery 90 = .ok (.aload_n 0, 1) := by decide +kernel
theorem dX0_checkQuery_91 : decode cX0_checkQuery 91 = .ok (.aload_n 1, 1) := by decide +kernel
theorem dX0_checkQuery_92 : decode cX0_checkQuery 92 = .ok (.aload_n 1, 1) := by decide +kernel
theorem dX0_checkQuery_93 : decode cX0_checkQuery 93 = .ok (.getfield 65, 3) := by decide +kernel
theorem dX0_checkQuery_96 : decode cX0_checkQuery 96 = .ok (.invokevirtual 69, 3) := by decide +kernel
theorem dX0_checkQuery_99 : decode cX0_checkQuery 99 = .ok (.return_, 1) := by decide +kernel
def c_X0_checkQuery_b99 (F : Nat) (T : TC_X0_checkQuery) (cs1 : CS) : Option CS := some cs1
def c_X0_checkQuery_b76 (F : Nat) (T : TC_X0_checkQuery) (cs1 : CS) (u0 : Nat) (u1 : Nat) : Option CS := Option.bind (gR cs1 4 130 u1) fun v_1 => oc v_1 (c_X0_checkQuery_b99 F T cs1) (fun i_2 => Option.bind (ckE cs1 1 u0) fun _ => Option.bind (c_X0_isFaulty F cs1 u0) fun v_3 => if v_3 = 0 then (Option.bind (gR cs1 4 130 u1) fun v_6 => Option.bind (v_6) fun i_7 => Option.bind (ckE cs1 1 u0) fun _ => Option.bind (c_X0_checkOrder F cs1 u0 u1 i_7) fun cs_8 => c_X0_checkQuery_b99 F T cs_8) else (c_X0_checkQuery_b99 F T cs1))
def c_X0_checkQuery_b70 (F : Nat) (T : TC_X0_checkQuery) (rc2 : CS → Nat → Nat → Int32 → Option CS) (cs1 : CS) (u0 : Nat) (u1 : Nat) (u2 : Int32) : Option CS := rc2 cs1 u0 u1 (u2 + 1)
def c_X0_checkQuery_b57 (F : Nat) (T : TC_X0_checkQuery) (rc2 : CS → Nat → Nat → Int32 → Option CS) (cs1 : CS) (u0 : Nat) (u1 : Nat) (u2 : Int32) (u3 : Nat) (y0 : Int32) (y1 : Nat) : Option CS := Option.bind (ckZ y0) fun _ => Option.bind (pI cs1 4 133 y1 y0) fun cs_10 => if u2 ≤ 0 then (c_X0_checkQuery_b70 F T rc2 cs_10 u0 u1 u2) else (Option.bind (ckE cs_10 1 u0) fun _ => Option.bind (c_X0_checkSet F cs_10 u0 u1 u3) fun cs_13 => c_X0_checkQuery_b70 F T rc2 cs_13 u0 u1 u2)
def c_X0_checkQuery_b52 (F : Nat) (T : TC_X0_checkQuery) (rc2 : CS → Nat → Nat → Int32 → Option CS) (cs1 : CS) (u0 : Nat) (u1 : Nat) (u2 : Int32) (u3 : Nat) (y0 : Nat) : Option CS := c_X0_checkQuery_b57 F T rc2 cs1 u0 u1 u2 u3 1 y0
def c_X0_checkQuery_L2 (F : Nat) (T : TC_X0_checkQuery) : Nat → CS → Nat → Nat → Int32 → Option CS
  | 0, _, _, _, _ => none
  | lf_2 + 1, cs1, u0, u1, u2 => Option.bind (gR cs1 4 128 u1) fun v_15 => Option.bind (v_15) fun i_17 => Option.bind (ckE cs1 0 i_17) fun _ => Option.bind (c_Jx4a65c_size_8abf5 F cs1 i_17) fun v_16 => if v_16 ≤ u2 then (c_X0_checkQuery_b76 F T cs1 u0 u1) else (Option.bind (ckE cs1 1 u0) fun _ => Option.bind (c_X0_isFaulty F cs1 u0) fun v_20 => if v_20 = 0 then (Option.bind (gR cs1 4 128 u1) fun v_23 => Option.bind (v_23) fun i_25 => Option.bind (ckE cs1 0 i_25) fun _ => Option.bind (c_Jx4a65c_get_915e3 F cs1 i_25 u2) fun v_24 => Option.bind (ckE cs1 6 v_24) fun _ => Option.bind (ckE cs1 1 u0) fun _ => Option.bind (T.2.1 cs1 u0 v_24) fun cs_28 => Option.bind (gI cs_28 4 133 u1) fun v_30 => if v_30 = 0 then (Option.bind (gI cs_28 6 206 v_24) fun v_32 => if v_32 = 0 then (c_X0_checkQuery_b57 F T (c_X0_checkQuery_L2 F T lf_2) cs_28 u0 u1 u2 v_24 0 u1) else (c_X0_checkQuery_b52 F T (c_X0_checkQuery_L2 F T lf_2) cs_28 u0 u1 u2 v_24 u1)) else (c_X0_checkQuery_b52 F T (c_X0_checkQuery_L2 F T lf_2) cs_28 u0 u1 u2 v_24 u1)) else (c_X0_checkQuery_b76 F T cs1 u0 u1))
def cb_X0_checkQuery (F : Nat) (T : TC_X0_checkQuery) (cs : CS) (x0 : Nat) (x1 : Nat) : Option CS := c_X0_checkQuery_L2 F T F cs x0 x1 0
theorem dX0_checkSelect_0 : decode cX0_checkSelect 0 = .ok (.iconst 0, 1) := by decide +kernel
theorem dX0_checkSelect_1 : decode cX0_checkSelect 1 = .ok (.istore_n 2, 1) := by decide +kernel
theorem dX0_checkSelect_2 : decode cX0_checkSelect 2 = .ok (.iload_n 2, 1) := by decide +kernel
theorem dX0_checkSelect_3 : decode cX0_checkSelect 3 = .ok (.aload_n 1, 1) := by decide +kernel
theorem dX0_checkSelect_4 : decode cX0_checkSelect 4 = .ok (.getfield 110, 3) := by decide +kernel
theorem dX0_checkSelect_7 : decode cX0_checkSelect 7 = .ok (.if_icmp .ge 31, 3) := by decide +kernel
theorem dX0_checkSelect_10 : decode cX0_checkSelect 10 = .ok (.iload_n 2, 1) := by decide +kernel
theorem dX0_checkSelect_11 : decode cX0_checkSelect 11 = .ok (.aload_n 1, 1) := by decide +kernel
theorem dX0_checkSelect_12 : decode cX0_checkSelect 12 = .ok (.getfield 113, 3) := by decide +kernel
theorem dX0_checkSelect_15 : decode cX0_checkSelect 15 = .ok (.arraylength, 1) := by decide +kernel
theorem dX0_checkSelect_16 : decode cX0_checkSelect 16 = .ok (.if_icmp .ge 22, 3) := by decide +kernel
theorem dX0_checkSelect_19 : decode cX0_checkSelect 19 = .ok (.aload_n 0, 1) := by decide +kernel
theorem dX0_checkSelect_20 : decode cX0_checkSelect 20 = .ok (.invokevirtual 42, 3) := by decide +kernel
theorem dX0_checkSelect_23 : decode cX0_checkSelect 23 = .ok (.ifCond .ne 15, 3) := by decide +kernel
theorem dX0_checkSelect_26 : decode cX0_checkSelect 26 = .ok (.aload_n 0, 1) := by decide +kernel
theorem dX0_checkSelect_27 : decode cX0_checkSelect 27 = .ok (.aload_n 1, 1) := by decide +kernel
theorem dX0_checkSelect_28 : decode cX0_checkSelect 28 = .ok (.iload_n 2, 1) := by decide +kernel
theorem dX0_checkSelect_29 : decode cX0_checkSelect 29 = .ok (.invokevirtual 117, 3) := by decide +kernel
theorem dX0_checkSelect_32 : decode cX0_checkSelect 32 = .ok (.iinc 2 1, 3) := by decide +kernel
theorem dX0_checkSelect_35 : decode cX0_checkSelect 35 = .ok (.goto (-33), 3) := by decide +kernel
theorem dX0_checkSelect_38 : decode cX0_checkSelect 38 = .ok (.aload_n 0, 1) := by decide +kernel
theorem dX0_checkSelect_39 : decode cX0_checkSelect 39 = .ok (.aload_n 1, 1) := by decide +kernel
theorem dX0_checkSelect_40 : decode cX0_checkSelect 40 = .ok (.putfield 121, 3) := by decide +kernel
theorem dX0_checkSelect_43 : decode cX0_checkSelect 43 = .ok (.aload_n 0, 1) := by decide +kernel
theorem dX0_checkSelect_44 : decode cX0_checkSelect 44 = .ok (.aload_n 1, 1) := by decide +kernel
theorem dX0_checkSelect_45 : decode cX0_checkSelect 45 = .ok (.getfield 110, 3) := by decide +kernel
theorem dX0_checkSelect_48 : decode cX0_checkSelect 48 = .ok (.putfield 125, 3) := by decide +kernel
theorem dX0_checkSelect_51 : decode cX0_checkSelect 51 = .ok (.aload_n 0, 1) := by decide +kernel
theorem dX0_checkSelect_52 : decode cX0_checkSelect 52 = .ok (.aconst_null, 1) := by decide +kernel
theorem dX0_checkSelect_53 : decode cX0_checkSelect 53 = .ok (.putfield 103, 3) := by decide +kernel
theorem dX0_checkSelect_56 : decode cX0_checkSelect 56 = .ok (.aload_n 0, 1) := by decide +kernel
theorem dX0_checkSelect_57 : decode cX0_checkSelect 57 = .ok (.aload_n 1, 1) := by decide +kernel
theorem dX0_checkSelect_58 : decode cX0_checkSelect 58 = .ok (.getfield 128, 3) := by decide +kernel
theorem dX0_checkSelect_61 : decode cX0_checkSelect 61 = .ok (.invokevirtual 131, 3) := by decide +kernel
theorem dX0_checkSelect_64 : decode cX0_checkSelect 64 = .ok (.aload_n 0, 1) := by decide +kernel
theorem dX0_checkSelect_65 : decode cX0_checkSelect 65 = .ok (.aload_n 1, 1) := by decide +kernel
theorem dX0_checkSelect_66 : decode cX0_checkSelect 66 = .ok (.invokevirtual 135, 3) := by decide +kernel
theorem dX0_checkSelect_69 : decode cX0_checkSelect 69 = .ok (.aload_n 1, 1) := by decide +kernel
theorem dX0_checkSelect_70 : decode cX0_checkSelect 70 = .ok (.invokevirtual 138, 3) := by decide +kernel
theorem dX0_checkSelect_73 : decode cX0_checkSelect 73 = .ok (.ifCond .eq 11, 3) := by decide +kernel
theorem dX0_checkSelect_76 : decode cX0_checkSelect 76 = .ok (.aload_n 0, 1) := by decide +kernel
theorem dX0_checkSelect_77 : decode cX0_checkSelect 77 = .ok (.aload_n 1, 1) := by decide +kernel
theorem dX0_checkSelect_78 : decode cX0_checkSelect 78 = .ok (.getfield 141, 3) := by decide +kernel
theorem dX0_checkSelect_81 : decode cX0_checkSelect 81 = .ok (.putfield 103, 3) := by decide +kernel
theorem dX0_checkSelect_84 : decode cX0_checkSelect 84 = .ok (.aload_n 0, 1) := by decide +kernel
theorem dX0_checkSelect_85 : decode cX0_checkSelect 85 = .ok (.aload_n 1, 1) := by decide +kernel
theorem dX0_checkSelect_86 : decode cX0_checkSelect 86 = .ok (.getfield 144, 3) := by decide +kernel
theorem dX0_checkSelect_89 : decode cX0_checkSelect 89 = .ok (.invokevirtual 131, 3) := by decide +kernel
theorem dX0_checkSelect_92 : decode cX0_checkSelect 92 = .ok (.aload_n 0, 1) := by decide +kernel
theorem dX0_checkSelect_93 : decode cX0_checkSelect 93 = .ok (.aload_n 1, 1) := by decide +kernel
theorem dX0_checkSelect_94 : decode cX0_checkSelect 94 = .ok (.getfield 93, 3) := by decide +kernel
theorem dX0_checkSelect_97 : decode cX0_checkSelect 97 = .ok (.invokevirtual 106, 3) := by decide +kernel
theorem dX0_checkSelect_100 : decode cX0_checkSelect 100 = .ok (.aload_n 1, 1) := by decide +kernel
theorem dX0_checkSelect_101 : decode cX0_checkSelect 101 = .ok (.getfield 147, 3) := by decide +kernel
theorem dX0_checkSelect_104 : decode cX0_checkSelect 104 = .ok (.ifCond .eq 15, 3) := by decide +kernel
theorem dX0_checkSelect_107 : decode cX0_checkSelect 107 = .ok (.aload_n 0, 1) := by decide +kernel
theorem dX0_checkSelect_108 : decode cX0_checkSelect 108 = .ok (.aload_n 1, 1) := by decide +kernel
theorem dX0_checkSelect_109 : decode cX0_checkSelect 109 = .ok (.getfield 60, 3) := by decide +kernel
theorem dX0_checkSelect_112 : decode cX0_checkSelect 112 = .ok (.aload_n 1, 1) := by decide +kernel
theorem dX0_checkSelect_113 : decode cX0_checkSelect 113 = .ok (.getfield 150, 3) := by decide +kernel
theorem dX0_checkSelect_116 : decode cX0_checkSelect 116 = .ok (.invokevirtual 86, 3) := by decide +kernel
theorem dX0_checkSelect_119 : decode cX0_checkSelect 119 = .ok (.return_, 1) := by decide +kernel
def c_X0_checkSelect_b119 (F : Nat) (T : TC_X0_checkQuery) (cs1 : CS) : Option CS := some cs1
def c_X0_checkSelect_b84 (F : Nat) (T : TC_X0_checkQuery) (cs1 : CS) (u0 : Nat) (u1 : Nat) : Option CS := Option.bind (gI cs1 6 201 u1) fun v_1 => Option.bind (ckE cs1 1 u0) fun _ => Option.bind (c_X0_checkTruth F cs1 u0 v_1) fun cs_2 => Option.bind (gR cs_2 6 194 u1) fun v_4 => Option.bind (v_4) fun i_5 => Option.bind (ckE cs_2 1 u0) fun _ => Option.bind (c_X0_checkColumns F cs_2 u0 i_5) fun cs_6 => Option.bind (gI cs_6 6 192 u1) fun v_8 => if v_8 = 0 then (c_X0_checkSelect_b119 F T cs_6) else (Option.bind (gI cs_6 6 206 u1) fun v_10 => Option.bind (gI cs_6 6 193 u1) fun v_11 => Option.bind (ckE cs_6 1 u0) fun _ => Option.bind (c_X0_checkBound F cs_6 u0 v_10 v_11) fun cs_12 => c_X0_checkSelect_b119 F T cs_12)
def c_X0_checkSelect_b38 (F : Nat) (T : TC_X0_checkQuery) (cs1 : CS) (u0 : Nat) (u1 : Nat) : Option CS := Option.bind (pR cs1 1 35 u0 (some u1)) fun cs_14 => Option.bind (gI cs_14 6 196 u1) fun v_15 => Option.bind (pI cs_14 1 36 u0 v_15) fun cs_16 => Option.bind (pR cs_16 1 37 u0 none) fun cs_17 => Option.bind (gI cs_17 6 197 u1) fun v_18 => Option.bind (ckE cs_17 1 u0) fun _ => Option.bind (c_X0_checkTruth F cs_17 u0 v_18) fun cs_19 => Option.bind (ckE cs_19 1 u0) fun _ => Option.bind (c_X0_checkGroups F cs_19 u0 u1) fun cs_21 => Option.bind (ckE cs_21 6 u1) fun _ => Option.bind (c_X5_isGrouped F cs_21 u1) fun v_23 => if v_23 = 0 then (c_X0_checkSelect_b84 F T cs_21 u0 u1) else (Option.bind (gR cs_21 6 200 u1) fun v_26 => Option.bind (pR cs_21 1 37 u0 v_26) fun cs_27 => c_X0_checkSelect_b84 F T cs_27 u0 u1)
def c_X0_checkSelect_L2 (F : Nat) (T : TC_X0_checkQuery) : Nat → CS → Nat → Nat → Int32 → Option CS
  | 0, _, _, _, _ => none
  | lf_2 + 1, cs1, u0, u1, u2 => Option.bind (gI cs1 6 196 u1) fun v_28 => if v_28 ≤ u2 then (c_X0_checkSelect_b38 F T cs1 u0 u1) else (Option.bind (gA cs1 6 195 u1) fun v_30 => Option.bind (lnA cs1 195 u1 v_30) fun v_31 => if v_31 ≤ u2 then (c_X0_checkSelect_b38 F T cs1 u0 u1) else (Option.bind (ckE cs1 1 u0) fun _ => Option.bind (c_X0_isFaulty F cs1 u0) fun v_33 => if v_33 = 0 then (Option.bind (ckE cs1 1 u0) fun _ => Option.bind (T.2.2.1 cs1 u0 u1 u2) fun cs_36 => (c_X0_checkSelect_L2 F T lf_2) cs_36 u0 u1 (u2 + 1)) else (c_X0_checkSelect_b38 F T cs1 u0 u1)))
def cb_X0_checkSelect (F : Nat) (T : TC_X0_checkQuery) (cs : CS) (x0 : Nat) (x1 : Nat) : Option CS := c_X0_checkSelect_L2 F T F cs x0 x1 0
theorem dX0_checkSource_0 : decode cX0_checkSource 0 = .ok (.aload_n 1, 1) := by decide +kernel
theorem dX0_checkSource_1 : decode cX0_checkSource 1 = .ok (.getfield 113, 3) := by decide +kernel
theorem dX0_checkSource_4 : decode cX0_checkSource 4 = .ok (.iload_n 2, 1) := by decide +kernel
theorem dX0_checkSource_5 : decode cX0_checkSource 5 = .ok (.aaload, 1) := by decide +kernel
theorem dX0_checkSource_6 : decode cX0_checkSource 6 = .ok (.astore_n 3, 1) := by decide +kernel
theorem dX0_checkSource_7 : decode cX0_checkSource 7 = .ok (.aload_n 3, 1) := by decide +kernel
theorem dX0_checkSource_8 : decode cX0_checkSource 8 = .ok (.ifnonnull 4, 3) := by decide +kernel
theorem dX0_checkSource_11 : decode cX0_checkSource 11 = .ok (.return_, 1) := by decide +kernel
theorem dX0_checkSource_12 : decode cX0_checkSource 12 = .ok (.aload_n 3, 1) := by decide +kernel
theorem dX0_checkSource_13 : decode cX0_checkSource 13 = .ok (.getfield 153, 3) := by decide +kernel
theorem dX0_checkSource_16 : decode cX0_checkSource 16 = .ok (.ifnull 41, 3) := by decide +kernel
theorem dX0_checkSource_19 : decode cX0_checkSource 19 = .ok (.aload_n 0, 1) := by decide +kernel
theorem dX0_checkSource_20 : decode cX0_checkSource 20 = .ok (.aload_n 3, 1) := by decide +kernel
theorem dX0_checkSource_21 : decode cX0_checkSource 21 = .ok (.aload_n 3, 1) := by decide +kernel
theorem dX0_checkSource_22 : decode cX0_checkSource 22 = .ok (.getfield 153, 3) := by decide +kernel
theorem dX0_checkSource_25 : decode cX0_checkSource 25 = .ok (.invokevirtual 159, 3) := by decide +kernel
theorem dX0_checkSource_28 : decode cX0_checkSource 28 = .ok (.aload_n 1, 1) := by decide +kernel
theorem dX0_checkSource_29 : decode cX0_checkSource 29 = .ok (.aload_n 1, 1) := by decide +kernel
theorem dX0_checkSource_30 : decode cX0_checkSource 30 = .ok (.getfield 60, 3) := by decide +kernel
theorem dX0_checkSource_33 : decode cX0_checkSource 33 = .ok (.ifCond .ne 13, 3) := by decide +kernel
theorem dX0_checkSource_36 : decode cX0_checkSource 36 = .ok (.aload_n 3, 1) := by decide +kernel
theorem dX0_checkSource_37 : decode cX0_checkSource 37 = .ok (.getfield 153, 3) := by decide +kernel
theorem dX0_checkSource_40 : decode cX0_checkSource 40 = .ok (.getfield 56, 3) := by decide +kernel
theorem dX0_checkSource_43 : decode cX0_checkSource 43 = .ok (.ifCond .eq 7, 3) := by decide +kernel
theorem dX0_checkSource_46 : decode cX0_checkSource 46 = .ok (.iconst 1, 1) := by decide +kernel
theorem dX0_checkSource_47 : decode cX0_checkSource 47 = .ok (.goto 4, 3) := by decide +kernel
theorem dX0_checkSource_50 : decode cX0_checkSource 50 = .ok (.iconst 0, 1) := by decide +kernel
theorem dX0_checkSource_51 : decode cX0_checkSource 51 = .ok (.putfield 60, 3) := by decide +kernel
theorem dX0_checkSource_54 : decode cX0_checkSource 54 = .ok (.goto 33, 3) := by decide +kernel
theorem dX0_checkSource_57 : decode cX0_checkSource 57 = .ok (.aload_n 0, 1) := by decide +kernel
theorem dX0_checkSource_58 : decode cX0_checkSource 58 = .ok (.aload_n 3, 1) := by decide +kernel
theorem dX0_checkSource_59 : decode cX0_checkSource 59 = .ok (.invokevirtual 163, 3) := by decide +kernel
theorem dX0_checkSource_62 : decode cX0_checkSource 62 = .ok (.aload_n 1, 1) := by decide +kernel
theorem dX0_checkSource_63 : decode cX0_checkSource 63 = .ok (.aload_n 1, 1) := by decide +kernel
theorem dX0_checkSource_64 : decode cX0_checkSource 64 = .ok (.getfield 60, 3) := by decide +kernel
theorem dX0_checkSource_67 : decode cX0_checkSource 67 = .ok (.ifCond .ne 12, 3) := by decide +kernel
theorem dX0_checkSource_70 : decode cX0_checkSource 70 = .ok (.aload_n 3, 1) := by decide +kernel
theorem dX0_checkSource_71 : decode cX0_checkSource 71 = .ok (.getfield 167, 3) := by decide +kernel
theorem dX0_checkSource_74 : decode cX0_checkSource 74 = .ok (.lconst 0, 1) := by decide +kernel
theorem dX0_checkSource_75 : decode cX0_checkSource 75 = .ok (.lcmp, 1) := by decide +kernel
theorem dX0_checkSource_76 : decode cX0_checkSource 76 = .ok (.ifCond .ge 7, 3) := by decide +kernel
theorem dX0_checkSource_79 : decode cX0_checkSource 79 = .ok (.iconst 1, 1) := by decide +kernel
theorem dX0_checkSource_80 : decode cX0_checkSource 80 = .ok (.goto 4, 3) := by decide +kernel
theorem dX0_checkSource_83 : decode cX0_checkSource 83 = .ok (.iconst 0, 1) := by decide +kernel
theorem dX0_checkSource_84 : decode cX0_checkSource 84 = .ok (.putfield 60, 3) := by decide +kernel
theorem dX0_checkSource_87 : decode cX0_checkSource 87 = .ok (.iconst 0, 1) := by decide +kernel
theorem dX0_checkSource_88 : decode cX0_checkSource 88 = .ok (.istore 4, 2) := by decide +kernel
theorem dX0_checkSource_90 : decode cX0_checkSource 90 = .ok (.iload 4, 2) := by decide +kernel
theorem dX0_checkSource_92 : decode cX0_checkSource 92 = .ok (.iload_n 2, 1) := by decide +kernel
theorem dX0_checkSource_93 : decode cX0_checkSource 93 = .ok (.if_icmp .ge 48, 3) := by decide +kernel
theorem dX0_checkSource_96 : decode cX0_checkSource 96 = .ok (.aload_n 1, 1) := by decide +kernel
theorem dX0_checkSource_97 : decode cX0_checkSource 97 = .ok (.getfield 113, 3) := by decide +kernel
theorem dX0_checkSource_100 : decode cX0_checkSource 100 = .ok (.iload 4, 2) := by decide +kernel
theorem dX0_checkSource_102 : decode cX0_checkSource 102 = .ok (.aaload, 1) := by decide +kernel
theorem dX0_checkSource_103 : decode cX0_checkSource 103 = .ok (.astore 5, 2) := by decide +kernel
theorem dX0_checkSource_105 : decode cX0_checkSource 105 = .ok (.aload 5, 2) := by decide +kernel
theorem dX0_checkSource_107 : decode cX0_checkSource 107 = .ok (.ifnull 28, 3) := by decide +kernel
theorem dX0_checkSource_110 : decode cX0_checkSource 110 = .ok (.aload 5, 2) := by decide +kernel
theorem dX0_checkSource_112 : decode cX0_checkSource 112 = .ok (.getfield 171, 3) := by decide +kernel
theorem dX0_checkSource_115 : decode cX0_checkSource 115 = .ok (.aload_n 3, 1) := by decide +kernel
theorem dX0_checkSource_116 : decode cX0_checkSource 116 = .ok (.getfield 171, 3) := by decide +kernel
theorem dX0_checkSource_119 : decode cX0_checkSource 119 = .ok (.lcmp, 1) := by decide +kernel
theorem dX0_checkSource_120 : decode cX0_checkSource 120 = .ok (.ifCond .ne 15, 3) := by decide +kernel
theorem dX0_checkSource_123 : decode cX0_checkSource 123 = .ok (.aload_n 0, 1) := by decide +kernel
theorem dX0_checkSource_124 : decode cX0_checkSource 124 = .ok (.getfield 9, 3) := by decide +kernel
theorem dX0_checkSource_127 : decode cX0_checkSource 127 = .ok (.iconst 2, 1) := by decide +kernel
theorem dX0_checkSource_128 : decode cX0_checkSource 128 = .ok (.aload_n 3, 1) := by decide +kernel
theorem dX0_checkSource_129 : decode cX0_checkSource 129 = .ok (.getfield 174, 3) := by decide +kernel
theorem dX0_checkSource_132 : decode cX0_checkSource 132 = .ok (.invokevirtual 76, 3) := by decide +kernel
theorem dX0_checkSource_135 : decode cX0_checkSource 135 = .ok (.iinc 4 1, 3) := by decide +kernel
theorem dX0_checkSource_138 : decode cX0_checkSource 138 = .ok (.goto (-48), 3) := by decide +kernel
theorem dX0_checkSource_141 : decode cX0_checkSource 141 = .ok (.iload_n 2, 1) := by decide +kernel
theorem dX0_checkSource_142 : decode cX0_checkSource 142 = .ok (.ifCond .le 77, 3) := by decide +kernel
theorem dX0_checkSource_145 : decode cX0_checkSource 145 = .ok (.aload_n 0, 1) := by decide +kernel
theorem dX0_checkSource_146 : decode cX0_checkSource 146 = .ok (.aload_n 1, 1) := by decide +kernel
theorem dX0_checkSource_147 : decode cX0_checkSource 147 = .ok (.getfield 60, 3) := by decide +kernel
theorem dX0_checkSource_150 : decode cX0_checkSource 150 = .ok (.aload_n 3, 1) := by decide +kernel
theorem dX0_checkSource_151 : decode cX0_checkSource 151 = .ok (.getfield 177, 3) := by decide +kernel
theorem dX0_checkSource_154 : decode cX0_checkSource 154 = .ok (.invokevirtual 86, 3) := by decide +kernel
theorem dX0_checkSource_157 : decode cX0_checkSource 157 = .ok (.aload_n 1, 1) := by decide +kernel
theorem dX0_checkSource_158 : decode cX0_checkSource 158 = .ok (.getfield 113, 3) := by decide +kernel
theorem dX0_checkSource_161 : decode cX0_checkSource 161 = .ok (.iload_n 2, 1) := by decide +kernel
theorem dX0_checkSource_162 : decode cX0_checkSource 162 = .ok (.iconst 1, 1) := by decide +kernel
theorem dX0_checkSource_163 : decode cX0_checkSource 163 = .ok (.isub, 1) := by decide +kernel
theorem dX0_checkSource_164 : decode cX0_checkSource 164 = .ok (.aaload, 1) := by decide +kernel
theorem dX0_checkSource_165 : decode cX0_checkSource 165 = .ok (.astore 4, 2) := by decide +kernel
theorem dX0_checkSource_167 : decode cX0_checkSource 167 = .ok (.aload_n 3, 1) := by decide +kernel
theorem dX0_checkSource_168 : decode cX0_checkSource 168 = .ok (.aload 4, 2) := by decide +kernel
theorem dX0_checkSource_170 : decode cX0_checkSource 170 = .ok (.ifnonnull 7, 3) := by decide +kernel
theorem dX0_checkSource_173 : decode cX0_checkSource 173 = .ok (.iconst 0, 1) := by decide +kernel
theorem dX0_checkSource_174 : decode cX0_checkSource 174 = .ok (.goto 17, 3) := by decide +kernel
theorem dX0_checkSource_177 : decode cX0_checkSource 177 = .ok (.aload 4, 2) := by decide +kernel
theorem dX0_checkSource_179 : decode cX0_checkSource 179 = .ok (.getfield 180, 3) := by decide +kernel
theorem dX0_checkSource_182 : decode cX0_checkSource 182 = .ok (.aload 4, 2) := by decide +kernel
theorem dX0_checkSource_184 : decode cX0_checkSource 184 = .ok (.getfield 183, 3) := by decide +kernel
theorem dX0_checkSource_187 : decode cX0_checkSource 187 = .ok (.getfield 186, 3) := by decide +kernel
theorem dX0_checkSource_190 : decode cX0_checkSource 190 = .ok (.iadd, 1) := by decide +kernel
theorem dX0_checkSource_191 : decode cX0_checkSource 191 = .ok (.putfield 180, 3) := by decide +kernel
theorem dX0_checkSource_194 : decode cX0_checkSource 194 = .ok (.aload_n 0, 1) := by decide +kernel
theorem dX0_checkSource_195 : decode cX0_checkSource 195 = .ok (.aload_n 1, 1) := by decide +kernel
theorem dX0_checkSource_196 : decode cX0_checkSource 196 = .ok (.putfield 121, 3) := by decide +kernel
theorem dX0_checkSource_199 : decode cX0_checkSource 199 = .ok (.aload_n 0, 1) := by decide +kernel
theorem dX0_checkSource_200 : decode cX0_checkSource 200 = .ok (.iload_n 2, 1) := by decide +kernel
theorem dX0_checkSource_201 : decode cX0_checkSource 201 = .ok (.iconst 1, 1) := by decide +kernel
theorem dX0_checkSource_202 : decode cX0_checkSource 202 = .ok (.iadd, 1) := by decide +kernel
theorem dX0_checkSource_203 : decode cX0_checkSource 203 = .ok (.putfield 125, 3) := by decide +kernel
theorem dX0_checkSource_206 : decode cX0_checkSource 206 = .ok (.aload_n 0, 1) := by decide +kernel
theorem dX0_checkSource_207 : decode cX0_checkSource 207 = .ok (.aconst_null, 1) := by decide +kernel
theorem dX0_checkSource_208 : decode cX0_checkSource 208 = .ok (.putfield 103, 3) := by decide +kernel
theorem dX0_checkSource_211 : decode cX0_checkSource 211 = .ok (.aload_n 0, 1) := by decide +kernel
theorem dX0_checkSource_212 : decode cX0_checkSource 212 = .ok (.aload_n 3, 1) := by decide +kernel
theorem dX0_checkSource_213 : decode cX0_checkSource 213 = .ok (.getfield 188, 3) := by decide +kernel
theorem dX0_checkSource_216 : decode cX0_checkSource 216 = .ok (.invokevirtual 131, 3) := by decide +kernel
theorem dX0_checkSource_219 : decode cX0_checkSource 219 = .ok (.return_, 1) := by decide +kernel
def c_X0_checkSource_b219 (F : Nat) (T : TC_X0_checkQuery) (cs1 : CS) : Option CS := some cs1
def c_X0_checkSource_b191 (F : Nat) (T : TC_X0_checkQuery) (cs1 : CS) (u0 : Nat) (u1 : Nat) (u2 : Int32) (u3 : Nat) (y0 : Int32) (y1 : Nat) : Option CS := Option.bind (pI cs1 7 234 y1 y0) fun cs_1 => Option.bind (pR cs_1 1 35 u0 (some u1)) fun cs_2 => Option.bind (pI cs_2 1 36 u0 (u2 + 1)) fun cs_3 => Option.bind (pR cs_3 1 37 u0 none) fun cs_4 => Option.bind (gI cs_4 7 233 u3) fun v_5 => Option.bind (ckE cs_4 1 u0) fun _ => Option.bind (c_X0_checkTruth F cs_4 u0 v_5) fun cs_6 => c_X0_checkSource_b219 F T cs_6
def c_X0_checkSource_b135 (F : Nat) (T : TC_X0_checkQuery) (rc90 : CS → Nat → Nat → Int32 → Nat → Int32 → Option CS) (cs1 : CS) (u0 : Nat) (u1 : Nat) (u2 : Int32) (u3 : Nat) (u4 : Int32) : Option CS := rc90 cs1 u0 u1 u2 u3 (u4 + 1)
def c_X0_checkSource_L90 (F : Nat) (T : TC_X0_checkQuery) : Nat → CS → Nat → Nat → Int32 → Nat → Int32 → Option CS
  | 0, _, _, _, _, _, _ => none
  | lf_90 + 1, cs1, u0, u1, u2, u3, u4 => if u2 ≤ u4 then (if u2 ≤ 0 then (c_X0_checkSource_b219 F T cs1) else (Option.bind (gI cs1 6 206 u1) fun v_10 => Option.bind (gI cs1 7 232 u3) fun v_11 => Option.bind (ckE cs1 1 u0) fun _ => Option.bind (c_X0_checkBound F cs1 u0 v_10 v_11) fun cs_12 => Option.bind (gA cs_12 6 195 u1) fun v_14 => Option.bind (rQ cs_12 195 u1 v_14 (u2 - 1)) fun v_15 => oc v_15 (c_X0_checkSource_b191 F T cs_12 u0 u1 u2 u3 0 u3) (fun i_16 => Option.bind (gI cs_12 7 234 i_16) fun v_17 => Option.bind (gR cs_12 7 235 i_16) fun v_18 => Option.bind (v_18) fun i_19 => Option.bind (gI cs_12 3 96 i_19) fun v_20 => c_X0_checkSource_b191 F T cs_12 u0 u1 u2 u3 (v_17 + v_20) u3))) else (Option.bind (gA cs1 6 195 u1) fun v_21 => Option.bind (rQ cs1 195 u1 v_21 u4) fun v_22 => oc v_22 (c_X0_checkSource_b135 F T (c_X0_checkSource_L90 F T lf_90) cs1 u0 u1 u2 u3 u4) (fun i_23 => Option.bind (gJ cs1 7 228 i_23) fun v_24 => Option.bind (gJ cs1 7 228 u3) fun v_25 => if v_24 = v_25 then (Option.bind (gR cs1 1 32 u0) fun v_27 => Option.bind (gI cs1 7 229 u3) fun v_28 => Option.bind (v_27) fun i_30 => Option.bind (ckE cs1 10 i_30) fun _ => Option.bind (c_X9_refuse F cs1 i_30 2 v_28) fun cs_29 => c_X0_checkSource_b135 F T (c_X0_checkSource_L90 F T lf_90) cs_29 u0 u1 u2 u3 u4) else (c_X0_checkSource_b135 F T (c_X0_checkSource_L90 F T lf_90) cs1 u0 u1 u2 u3 u4)))
def c_X0_checkSource_b87 (F : Nat) (T : TC_X0_checkQuery) (cs1 : CS) (u0 : Nat) (u1 : Nat) (u2 : Int32) (u3 : Nat) : Option CS := c_X0_checkSource_L90 F T F cs1 u0 u1 u2 u3 0
def c_X0_checkSource_b51 (F : Nat) (T : TC_X0_checkQuery) (cs1 : CS) (u0 : Nat) (u1 : Nat) (u2 : Int32) (u3 : Nat) (y0 : Int32) (y1 : Nat) : Option CS := Option.bind (ckZ y0) fun _ => Option.bind (pI cs1 6 206 y1 y0) fun cs_32 => c_X0_checkSource_b87 F T cs_32 u0 u1 u2 u3
def c_X0_checkSource_b46 (F : Nat) (T : TC_X0_checkQuery) (cs1 : CS) (u0 : Nat) (u1 : Nat) (u2 : Int32) (u3 : Nat) (y0 : Nat) : Option CS := c_X0_checkSource_b51 F T cs1 u0 u1 u2 u3 1 y0
def c_X0_checkSource_b84 (F : Nat) (T : TC_X0_checkQuery) (cs1 : CS) (u0 : Nat) (u1 : Nat) (u2 : Int32) (u3 : Nat) (y0 : Int32) (y1 : Nat) : Option CS := Option.bind (ckZ y0) fun _ => Option.bind (pI cs1 6 206 y1 y0) fun cs_34 => c_X0_checkSource_b87 F T cs_34 u0 u1 u2 u3
def c_X0_checkSource_b79 (F : Nat) (T : TC_X0_checkQuery) (cs1 : CS) (u0 : Nat) (u1 : Nat) (u2 : Int32) (u3 : Nat) (y0 : Nat) : Option CS := c_X0_checkSource_b84 F T cs1 u0 u1 u2 u3 1 y0
def cb_X0_checkSource (F : Nat) (T : TC_X0_checkQuery) (cs : CS) (x0 : Nat) (x1 : Nat) (x2 : Int32) : Option CS := Option.bind (gA cs 6 195 x1) fun v_36 => Option.bind (rQ cs 195 x1 v_36 x2) fun v_37 => oc v_37 (some cs) (fun i_38 => Option.bind (gR cs 7 225 i_38) fun v_39 => oc v_39 (Option.bind (ckE cs 1 x0) fun _ => Option.bind (c_X0_checkLeaf F cs x0 i_38) fun cs_41 => Option.bind (gI cs_41 6 206 x1) fun v_43 => if v_43 = 0 then (Option.bind (gJ cs_41 7 230 i_38) fun v_45 => if 0 ≤ v_45 then (c_X0_checkSource_b84 F T cs_41 x0 x1 x2 i_38 0 x1) else (c_X0_checkSource_b79 F T cs_41 x0 x1 x2 i_38 x1)) else (c_X0_checkSource_b79 F T cs_41 x0 x1 x2 i_38 x1)) (fun i_40 => Option.bind (gR cs 7 225 i_38) fun v_47 => Option.bind (v_47) fun i_48 => Option.bind (ckE cs 1 x0) fun _ => Option.bind (T.2.2.2 cs x0 i_38 i_48) fun cs_49 => Option.bind (gI cs_49 6 206 x1) fun v_51 => if v_51 = 0 then (Option.bind (gR cs_49 7 225 i_38) fun v_53 => Option.bind (v_53) fun i_54 => Option.bind (gI cs_49 4 133 i_54) fun v_55 => if v_55 = 0 then (c_X0_checkSource_b51 F T cs_49 x0 x1 x2 i_38 0 x1) else (c_X0_checkSource_b46 F T cs_49 x0 x1 x2 i_38 x1)) else (c_X0_checkSource_b46 F T cs_49 x0 x1 x2 i_38 x1)))
theorem dX0_checkInner_0 : decode cX0_checkInner 0 = .ok (.aload_n 0, 1) := by decide +kernel
theorem dX0_checkInner_1 : decode cX0_checkInner 1 = .ok (.aload_n 2, 1) := by decide +kernel
theorem dX0_checkInner_2 : decode cX0_checkInner 2 = .ok (.invokevirtual 211, 3) := by decide +kernel
theorem dX0_checkInner_5 : decode cX0_checkInner 5 = .ok (.aload_n 0, 1) := by decide +kernel
theorem dX0_checkInner_6 : decode cX0_checkInner 6 = .ok (.invokevirtual 42, 3) := by decide +kernel
theorem dX0_checkInner_9 : decode cX0_checkInner 9 = .ok (.ifCond .eq 4, 3) := by decide +kernel
theorem dX0_checkInner_12 : decode cX0_checkInner 12 = .ok (.return_, 1) := by decide +kernel
theorem dX0_checkInner_13 : decode cX0_checkInner 13 = .ok (.aload_n 2, 1) := by decide +kernel
theorem dX0_checkInner_14 : decode cX0_checkInner 14 = .ok (.getfield 90, 3) := by decide +kernel
theorem dX0_checkInner_17 : decode cX0_checkInner 17 = .ok (.astore_n 3, 1) := by decide +kernel
theorem dX0_checkInner_18 : decode cX0_checkInner 18 = .ok (.aload_n 3, 1) := by decide +kernel
theorem dX0_checkInner_19 : decode cX0_checkInner 19 = .ok (.invokevirtual 215, 3) := by decide +kernel
theorem dX0_checkInner_22 : decode cX0_checkInner 22 = .ok (.ifCond .ne 15, 3) := by decide +kernel
theorem dX0_checkInner_25 : decode cX0_checkInner 25 = .ok (.aload_n 0, 1) := by decide +kernel
theorem dX0_checkInner_26 : decode cX0_checkInner 26 = .ok (.getfield 9, 3) := by decide +kernel
theorem dX0_checkInner_29 : decode cX0_checkInner 29 = .ok (.iconst 2, 1) := by decide +kernel
theorem dX0_checkInner_30 : decode cX0_checkInner 30 = .ok (.aload_n 1, 1) := by decide +kernel
theorem dX0_checkInner_31 : decode cX0_checkInner 31 = .ok (.getfield 218, 3) := by decide +kernel
theorem dX0_checkInner_34 : decode cX0_checkInner 34 = .ok (.invokevirtual 76, 3) := by decide +kernel
theorem dX0_checkInner_37 : decode cX0_checkInner 37 = .ok (.iconst 0, 1) := by decide +kernel
theorem dX0_checkInner_38 : decode cX0_checkInner 38 = .ok (.istore 4, 2) := by decide +kernel
theorem dX0_checkInner_40 : decode cX0_checkInner 40 = .ok (.iload 4, 2) := by decide +kernel
theorem dX0_checkInner_42 : decode cX0_checkInner 42 = .ok (.aload_n 3, 1) := by decide +kernel
theorem dX0_checkInner_43 : decode cX0_checkInner 43 = .ok (.getfield 186, 3) := by decide +kernel
theorem dX0_checkInner_46 : decode cX0_checkInner 46 = .ok (.if_icmp .ge 41, 3) := by decide +kernel
theorem dX0_checkInner_49 : decode cX0_checkInner 49 = .ok (.aload_n 3, 1) := by decide +kernel
theorem dX0_checkInner_50 : decode cX0_checkInner 50 = .ok (.iload 4, 2) := by decide +kernel
theorem dX0_checkInner_52 : decode cX0_checkInner 52 = .ok (.invokevirtual 221, 3) := by decide +kernel
theorem dX0_checkInner_55 : decode cX0_checkInner 55 = .ok (.ifCond .eq 32, 3) := by decide +kernel
theorem dX0_checkInner_58 : decode cX0_checkInner 58 = .ok (.aload_n 1, 1) := by decide +kernel
theorem dX0_checkInner_59 : decode cX0_checkInner 59 = .ok (.getfield 183, 3) := by decide +kernel
theorem dX0_checkInner_62 : decode cX0_checkInner 62 = .ok (.iconst (-1), 1) := by decide +kernel
theorem dX0_checkInner_63 : decode cX0_checkInner 63 = .ok (.aload_n 3, 1) := by decide +kernel
theorem dX0_checkInner_64 : decode cX0_checkInner 64 = .ok (.getfield 224, 3) := by decide +kernel
theorem dX0_checkInner_67 : decode cX0_checkInner 67 = .ok (.iload 4, 2) := by decide +kernel
theorem dX0_checkInner_69 : decode cX0_checkInner 69 = .ok (.laload, 1) := by decide +kernel
theorem dX0_checkInner_70 : decode cX0_checkInner 70 = .ok (.iconst 0, 1) := by decide +kernel
theorem dX0_checkInner_71 : decode cX0_checkInner 71 = .ok (.aload_n 3, 1) := by decide +kernel
theorem dX0_checkInner_72 : decode cX0_checkInner 72 = .ok (.getfield 227, 3) := by decide +kernel
theorem dX0_checkInner_75 : decode cX0_checkInner 75 = .ok (.iload 4, 2) := by decide +kernel
theorem dX0_checkInner_77 : decode cX0_checkInner 77 = .ok (.iaload, 1) := by decide +kernel
theorem dX0_checkInner_78 : decode cX0_checkInner 78 = .ok (.invokevirtual 207, 3) := by decide +kernel
theorem dX0_checkInner_81 : decode cX0_checkInner 81 = .ok (.iinc 4 1, 3) := by decide +kernel
theorem dX0_checkInner_84 : decode cX0_checkInner 84 = .ok (.goto (-44), 3) := by decide +kernel
theorem dX0_checkInner_87 : decode cX0_checkInner 87 = .ok (.return_, 1) := by decide +kernel
def c_X0_checkInner_b87 (F : Nat) (T : TC_X0_checkQuery) (cs1 : CS) : Option CS := some cs1
def c_X0_checkInner_L40 (F : Nat) (T : TC_X0_checkQuery) : Nat → CS → Nat → Nat → Int32 → Option CS
  | 0, _, _, _, _ => none
  | lf_40 + 1, cs1, u1, u3, u4 => Option.bind (gI cs1 3 96 u3) fun v_1 => if v_1 ≤ u4 then (c_X0_checkInner_b87 F T cs1) else (Option.bind (ckE cs1 3 u3) fun _ => Option.bind (c_X2_has F cs1 u3 u4) fun v_3 => if v_3 = 0 then (c_X0_checkInner_b87 F T cs1) else (Option.bind (gR cs1 7 235 u1) fun v_6 => Option.bind (gA cs1 3 98 u3) fun v_7 => Option.bind (rB cs1 98 u3 v_7 u4) fun v_8 => Option.bind (gA cs1 3 100 u3) fun v_9 => Option.bind (rA cs1 100 u3 v_9 u4) fun v_10 => Option.bind (v_6) fun i_12 => Option.bind (ckE cs1 3 i_12) fun _ => Option.bind (c_X2_add F cs1 i_12 (-1) v_8 0 v_10) fun cs_11 => (c_X0_checkInner_L40 F T lf_40) cs_11 u1 u3 (u4 + 1)))
def c_X0_checkInner_b37 (F : Nat) (T : TC_X0_checkQuery) (cs1 : CS) (u1 : Nat) (u3 : Nat) : Option CS := c_X0_checkInner_L40 F T F cs1 u1 u3 0
def cb_X0_checkInner (F : Nat) (T : TC_X0_checkQuery) (cs : CS) (x0 : Nat) (x1 : Nat) (x2 : Nat) : Option CS := Option.bind (ckE cs 1 x0) fun _ => Option.bind (T.1 cs x0 x2) fun cs_14 => Option.bind (ckE cs_14 1 x0) fun _ => Option.bind (c_X0_isFaulty F cs_14 x0) fun v_16 => if v_16 = 0 then (Option.bind (gR cs_14 4 129 x2) fun v_19 => Option.bind (v_19) fun i_21 => Option.bind (ckE cs_14 3 i_21) fun _ => Option.bind (c_X2_allNamedApart F cs_14 i_21) fun v_20 => if v_20 = 0 then (Option.bind (gR cs_14 1 32 x0) fun v_24 => Option.bind (gI cs_14 7 227 x1) fun v_25 => Option.bind (v_24) fun i_27 => Option.bind (ckE cs_14 10 i_27) fun _ => Option.bind (c_X9_refuse F cs_14 i_27 2 v_25) fun cs_26 => c_X0_checkInner_b37 F T cs_26 x1 i_21) else (c_X0_checkInner_b37 F T cs_14 x1 i_21)) else (some cs_14)
theorem cw_X0_X0_checkQuery {R : Room} {s : State} {args : Array Value} {y0 : MethodName} {c0 : ByteArray} {n0 : Nat} {r0 : Option FieldType} (hts : ∀ w ∈ wsOf y0 c0 n0 r0, w.before args s = true) {fr : Nat} (h1 : fr + 1 ≤ R.frames) (h2 : 8 + (4 + 11) + 60 * fr ≤ R.locals) : CallW R s args RX0 RX0 211 yX0_checkQuery cX0_checkQuery 4 none (wsOf yX0_checkQuery cX0_checkQuery 4 none) ({ frames := fr, cells := 0, slots := 0, locals := 60 * fr } : Room) 0 0 1 := cwV 1 hts (gd_all (in_V kw_1207 kw_1172 kw_45 kw_204 kc_X0_checkQuery)) rfl rfl rfl (by decide +kernel) ⟨h1, h2⟩
theorem cw_X0_X0_checkSelect {R : Room} {s : State} {args : Array Value} {y0 : MethodName} {c0 : ByteArray} {n0 : Nat} {r0 : Option FieldType} (hts : ∀ w ∈ wsOf y0 c0 n0 r0, w.before args s = true) {fr : Nat} (h1 : fr + 1 ≤ R.frames) (h2 : 8 + (3 + 11) + 60 * fr ≤ R.locals) : CallW R s args RX0 RX0 52 yX0_checkSelect cX0_checkSelect 3 none (wsOf yX0_checkSelect cX0_checkSelect 3 none) ({ frames := fr, cells := 0, slots := 0, locals := 60 * fr } : Room) 0 0 1 := cwV 1 hts (gd_all (in_V kw_1195 kw_1197 kw_47 kw_204 kc_X0_checkSelect)) rfl rfl rfl (by decide +kernel) ⟨h1, h2⟩
theorem cw_X0_X0_checkSource {R : Room} {s : State} {args : Array Value} {y0 : MethodName} {c0 : ByteArray} {n0 : Nat} {r0 : Option FieldType} (hts : ∀ w ∈ wsOf y0 c0 n0 r0, w.before args s = true) {fr : Nat} (h1 : fr + 1 ≤ R.frames) (h2 : 8 + (6 + 11) + 60 * fr ≤ R.locals) : CallW R s args RX0 RX0 117 yX0_checkSource cX0_checkSource 6 none (wsOf yX0_checkSource cX0_checkSource 6 none) ({ frames := fr, cells := 0, slots := 0, locals := 60 * fr } : Room) 0 0 2 := cwV 2 hts (gd_all (in_V kw_1199 kw_1201 kw_48 kw_204 kc_X0_checkSource)) rfl rfl rfl (by decide +kernel) ⟨h1, h2⟩
theorem cw_X0_X0_checkInner {R : Room} {s : State} {args : Array Value} {y0 : MethodName} {c0 : ByteArray} {n0 : Nat} {r0 : Option FieldType} (hts : ∀ w ∈ wsOf y0 c0 n0 r0, w.before args s = true) {fr : Nat} (h1 : fr + 1 ≤ R.frames) (h2 : 8 + (5 + 11) + 60 * fr ≤ R.locals) : CallW R s args RX0 RX0 159 yX0_checkInner cX0_checkInner 5 none (wsOf yX0_checkInner cX0_checkInner 5 none) ({ frames := fr, cells := 0, slots := 0, locals := 60 * fr } : Room) 0 0 2 := cwV 2 hts (gd_all (in_V kw_1203 kw_1205 kw_49 kw_204 kc_X0_checkInner)) rfl rfl rfl (by decide +kernel) ⟨h1, h2⟩
def tabc_X0_checkQuery (F : Nat) : Nat → TC_X0_checkQuery
  | 0 => (fun _ _ _ => none, fun _ _ _ => none, fun _ _ _ _ => none, fun _ _ _ _ => none)
  | n + 1 => (cb_X0_checkQuery F (tabc_X0_checkQuery F n), cb_X0_checkSelect F (tabc_X0_checkQuery F n), cb_X0_checkSource F (tabc_X0_checkQuery F n), cb_X0_checkInner F (tabc_X0_checkQuery F n))
set_option maxHeartbeats 4000000 in
set_option maxRecDepth 100000 in
theorem sbc_X0_checkQuery (l : Launch) (dC : Nat → ClassId) (dI : Nat → Nat → Nat) (cB cI cJ cZ cS cO : ClassId) (b : Nat) (K V : Nat → Nat) (fz : Value) (F : Nat) (n : Nat) (T : TC_X0_checkQuery) (hT_X0_checkQuery : ∀ (cs : CS) (x0 : Nat) (x1 : Nat) (cs9 : CS), T.1 cs x0 x1 = some cs9 → ocV l dC dI cB cI cJ cZ cS cO b K V fz yX0_checkQuery (wsOf yX0_checkQuery cX0_checkQuery 4 none) (n + 6) [.ref (b + x0), .ref (b + x1)] cs cs9) (hT_X0_checkSelect : ∀ (cs : CS) (x0 : Nat) (x1 : Nat) (cs9 : CS), T.2.1 cs x0 x1 = some cs9 → ocV l dC dI cB cI cJ cZ cS cO b K V fz yX0_checkSelect (wsOf yX0_checkSelect cX0_checkSelect 3 none) (n + 6) [.ref (b + x0), .ref (b + x1)] cs cs9) (hT_X0_checkSource : ∀ (cs : CS) (x0 : Nat) (x1 : Nat) (x2 : Int32) (cs9 : CS), T.2.2.1 cs x0 x1 x2 = some cs9 → ocV l dC dI cB cI cJ cZ cS cO b K V fz yX0_checkSource (wsOf yX0_checkSource cX0_checkSource 6 none) (n + 6) [.ref (b + x0), .ref (b + x1), .int x2] cs cs9) (hT_X0_checkInner : ∀ (cs : CS) (x0 : Nat) (x1 : Nat) (x2 : Nat) (cs9 : CS), T.2.2.2 cs x0 x1 x2 = some cs9 → ocV l dC dI cB cI cJ cZ cS cO b K V fz yX0_checkInner (wsOf yX0_checkInner cX0_checkInner 5 none) (n + 6) [.ref (b + x0), .ref (b + x1), .ref (b + x2)] cs cs9) (cs : CS) (x0 : Nat) (x1 : Nat) (cs9 : CS) (hf : cb_X0_checkQuery F T cs x0 x1 = some cs9) : ocV l dC dI cB cI cJ cZ cS cO b K V fz yX0_checkQuery (wsOf yX0_checkQuery cX0_checkQuery 4 none) (n + 1 + 6) [.ref (b + x0), .ref (b + x1)] cs cs9 := by
  intro sz
  refine Met.ofW (cc := cX0_checkQuery) (maxL := 4) (ret := none) (by decide) rfl ?_
  intro p e s m args below meth c s₁ B hml hv
  obtain ⟨rfl, hsz, hP, hK, hD0, hZ⟩ := hv
  have hx := B.exec
  have hb := B.bytes
  have hr := B.returns
  have hts := atoms_spec (ws := (wsOf yX0_checkQuery cX0_checkQuery 4 none)) B.pre
  have hown : s.vm.findClass RX0 = some m.cls := findClass_of_methodNamed B.named
  have hlocks := B.notSynchronized
  subst hsz
  have hD := hD0.self (sz := s.heap.size)
  generalize hAe : va_A (cW cB cI cJ cZ cS cO b cs) s.heap.size = A at hD hZ ⊢
  have hA : ∀ q : Nat, s.heap.size ≤ q → A q := fun q h => by rw [← hAe]; exact Or.inr h
  have hS : va_S A s.heap s.heap [] := va_S.rf
  have hl := lv_entry ([.ref (b + x0), .ref (b + x1)]) (n := 4) (Nat.le_of_ble_eq_true rfl)
  rw [lg_entry_eq]
  generalize (lg_sl ([.ref (b + x0), .ref (b + x1)]) ++ List.replicate (4 - (lg_sl ([.ref (b + x0), .ref (b + x1)])).length) Slot.unset).toArray = ls at hl ⊢
  have hl : lv_has ls 4 [(0, .ref (b + x0)), (1, .ref (b + x1))] := hl
  have B_99 : ∀ (cs1 : CS) , c_X0_checkQuery_b99 F T cs1 = some cs9 → ∀ (H : Heap) (locs : List Loc) (ls : Array Slot), va_P (dC, dI) vwCl (cW cB cI cJ cZ cS cO b cs1) H → va_D A (cW cB cI cJ cZ cS cO b cs1) → va_S A s.heap H locs → lv_has ls 4 [] → W p l e (headSpec (wsOf yX0_checkQuery cX0_checkQuery 4 none) ({ frames := n + 1 + 6, cells := 0, slots := 0, locals := 60 * (n + 1 + 6) } : Room)).room s m ([.ref (b + x0), .ref (b + x1)] : List Value).toArray below meth c H locs 0 0 (MQ below (va_Qv (fun (_ : Unit) => True) (fun _ t_ => va_P (dC, dI) vwCl (cW cB cI cJ cZ cS cO b cs9) t_.heap ∧ va_D A (cW cB cI cJ cZ cS cO b cs9)) A) ([.ref (b + x0), .ref (b + x1)] : List Value).toArray s 0 0 A) (F0 m 99 ls []) := by
    intro cs1  h H locs ls hP hD hS hl
    unfold c_X0_checkQuery_b99 at h
    have e1 := Option.some.inj h
    rw [e1] at hP hD
    exact W.vret hx hb hr (fun t_ ht hW => ⟨⟨(), rfl, trivial, by rw [ht]; exact hP, hD⟩, hS.F ht⟩) hS.2.2 dX0_checkQuery_99
  have B_76 : ∀ (cs1 : CS) (u0 : Nat) (u1 : Nat), c_X0_checkQuery_b76 F T cs1 u0 u1 = some cs9 → ∀ (H : Heap) (locs : List Loc) (ls : Array Slot), va_P (dC, dI) vwCl (cW cB cI cJ cZ cS cO b cs1) H → va_D A (cW cB cI cJ cZ cS cO b cs1) → va_S A s.heap H locs → lv_has ls 4 [(0, .ref (b + u0)), (1, .ref (b + u1))] → W p l e (headSpec (wsOf yX0_checkQuery cX0_checkQuery 4 none) ({ frames := n + 1 + 6, cells := 0, slots := 0, locals := 60 * (n + 1 + 6) } : Room)).room s m ([.ref (b + x0), .ref (b + x1)] : List Value).toArray below meth c H locs 0 0 (MQ below (va_Qv (fun (_ : Unit) => True) (fun _ t_ => va_P (dC, dI) vwCl (cW cB cI cJ cZ cS cO b cs9) t_.heap ∧ va_D A (cW cB cI cJ cZ cS cO b cs9)) A) ([.ref (b + x0), .ref (b + x1)] : List Value).toArray s 0 0 A) (F0 m 76 ls []) := by
    intro cs1 u0 u1 h H locs ls hP hD hS hl
    unfold c_X0_checkQuery_b76 at h
    refine lv_aload_n hx hb dX0_checkQuery_76 rfl (lv_at hl 1 rfl) ?_
    replace h := ob h; obtain ⟨v_1, hv_1, h⟩ := h
    refine fg_X0_65 hx hb hts hown hK hP hv_1 dX0_checkQuery_77 ?_
    cases v_1 with
    | none =>
      replace h := oc_n.symm.trans h
      refine lv_ifnullN (tgt := 99) hx hb dX0_checkQuery_80 (by decide) ?_
      exact B_99 cs1 h _ _ _ hP hD hS (lv_sub hl [] rfl)
    | some i_2 =>
      replace h := oc_s.symm.trans h
      refine lv_ifnull hx hb dX0_checkQuery_80 ?_
      refine lv_aload_n hx hb dX0_checkQuery_83 rfl (lv_at hl 0 rfl) ?_
      replace h := ob h; obtain ⟨w_4, hw_4, h⟩ := h
      replace h := ob h; obtain ⟨v_3, hv_3, h⟩ := h
      refine ccI (As := []) hx hb hml hts hown hK hP hD hS hA hZ (X := 1) (by decide) rfl (ckE_some hw_4) (sc_X0_isFaulty l dC dI cB cI cJ cZ cS cO b K V fz F cs1 u0 v_3 hv_3) (cw_X0_X0_isFaulty hts (fr := 0) (by show 0 + 1 ≤ n + 1 + 6; omega) (by show 8 + (1 + 11) + 60 * (0) ≤ 60 * (n + 1 + 6); omega)) rfl hl.1 (Nat.le_of_ble_eq_true rfl) ⟨Nat.zero_le _, Nat.zero_le _⟩ dX0_checkQuery_84 (fun H locs hP hD hS => ?_)
      refine lv_if_ne (tgt := 99) hx hb dX0_checkQuery_87 (by decide) (fun c_5 => ?_) (fun c_5 => ?_)
      · skip
        replace h := (if_neg c_5).symm.trans h
        exact B_99 cs1 h _ _ _ hP hD hS (lv_sub hl [] rfl)
      · skip
        replace h := (if_pos c_5).symm.trans h
        refine lv_aload_n hx hb dX0_checkQuery_90 rfl (lv_at hl 0 rfl) ?_
        refine lv_aload_n hx hb dX0_checkQuery_91 rfl (lv_at hl 1 rfl) ?_
        refine lv_aload_n hx hb dX0_checkQuery_92 rfl (lv_at hl 1 rfl) ?_
        replace h := ob h; obtain ⟨v_6, hv_6, h⟩ := h
        refine fg_X0_65 hx hb hts hown hK hP hv_6 dX0_checkQuery_93 ?_
        replace h := ob h; obtain ⟨i_7, hi_7, h⟩ := h
        subst hi_7
        replace h := ob h; obtain ⟨w_9, hw_9, h⟩ := h
        replace h := ob h; obtain ⟨cs_8, hv_8, h⟩ := h
        refine ccV (As := [.ref (b + u1), .ref (b + i_7)]) hx hb hml hts hown hK hP hD hS hA hZ (X := 1) (by decide) rfl (ckE_some hw_9) (sc_X0_checkOrder l dC dI cB cI cJ cZ cS cO b K V fz F cs1 u0 u1 i_7 cs_8 hv_8) (cw_X0_X0_checkOrder hts (fr := 5) (by show 5 + 1 ≤ n + 1 + 6; omega) (by show 8 + (3 + 11) + 60 * (5) ≤ 60 * (n + 1 + 6); omega)) rfl hl.1 (Nat.le_of_ble_eq_true rfl) ⟨Nat.zero_le _, Nat.zero_le _⟩ dX0_checkQuery_96 (fun H locs hP hD hS => ?_)
        exact B_99 cs_8 h _ _ _ hP hD hS (lv_sub hl [] rfl)
  have L_2 : ∀ (lf_2 : Nat), ∀ (cs1 : CS) (u0 : Nat) (u1 : Nat) (u2 : Int32), c_X0_checkQuery_L2 F T lf_2 cs1 u0 u1 u2 = some cs9 → ∀ (H : Heap) (locs : List Loc) (ls : Array Slot), va_P (dC, dI) vwCl (cW cB cI cJ cZ cS cO b cs1) H → va_D A (cW cB cI cJ cZ cS cO b cs1) → va_S A s.heap H locs → lv_has ls 4 [(0, .ref (b + u0)), (1, .ref (b + u1)), (2, .int u2)] → W p l e (headSpec (wsOf yX0_checkQuery cX0_checkQuery 4 none) ({ frames := n + 1 + 6, cells := 0, slots := 0, locals := 60 * (n + 1 + 6) } : Room)).room s m ([.ref (b + x0), .ref (b + x1)] : List Value).toArray below meth c H locs 0 0 (MQ below (va_Qv (fun (_ : Unit) => True) (fun _ t_ => va_P (dC, dI) vwCl (cW cB cI cJ cZ cS cO b cs9) t_.heap ∧ va_D A (cW cB cI cJ cZ cS cO b cs9)) A) ([.ref (b + x0), .ref (b + x1)] : List Value).toArray s 0 0 A) (F0 m 2 ls []) := by
    intro lf_2
    induction lf_2 with
    | zero => intro cs1 u0 u1 u2 h; cases (show (none : Option CS) = _ from h)
    | succ lf_2 ih_2 =>
      have B_70 : ∀ (cs1 : CS) (u0 : Nat) (u1 : Nat) (u2 : Int32), c_X0_checkQuery_b70 F T (c_X0_checkQuery_L2 F T lf_2) cs1 u0 u1 u2 = some cs9 → ∀ (H : Heap) (locs : List Loc) (ls : Array Slot), va_P (dC, dI) vwCl (cW cB cI cJ cZ cS cO b cs1) H → va_D A (cW cB cI cJ cZ cS cO b cs1) → va_S A s.heap H locs → lv_has ls 4 [(0, .ref (b + u0)), (1, .ref (b + u1)), (2, .int u2)] → W p l e (headSpec (wsOf yX0_checkQuery cX0_checkQuery 4 none) ({ frames := n + 1 + 6, cells := 0, slots := 0, locals := 60 * (n + 1 + 6) } : Room)).room s m ([.ref (b + x0), .ref (b + x1)] : List Value).toArray below meth c H locs 0 0 (MQ below (va_Qv (fun (_ : Unit) => True) (fun _ t_ => va_P (dC, dI) vwCl (cW cB cI cJ cZ cS cO b cs9) t_.heap ∧ va_D A (cW cB cI cJ cZ cS cO b cs9)) A) ([.ref (b + x0), .ref (b + x1)] : List Value).toArray s 0 0 A) (F0 m 70 ls []) := by
        intro cs1 u0 u1 u2 h H locs ls hP hD hS hl
        unfold c_X0_checkQuery_b70 at h
        refine lv_iinc (v := u2 + 1) (lv' := [(2, .int (u2 + 1)), (0, .ref (b + u0)), (1, .ref (b + u1))]) hx hb dX0_checkQuery_70 hl (k := 2) rfl rfl (by decide) rfl (fun ls hl => ?_)
        refine lv_goto (tgt := 2) hx hb dX0_checkQuery_73 (by decide) ?_
        exact ih_2 cs1 u0 u1 (u2 + 1) h _ _ _ hP hD hS (lv_sub hl [1, 2, 0] rfl)
      have B_57 : ∀ (cs1 : CS) (u0 : Nat) (u1 : Nat) (u2 : Int32) (u3 : Nat) (y0 : Int32) (y1 : Nat), c_X0_checkQuery_b57 F T (c_X0_checkQuery_L2 F T lf_2) cs1 u0 u1 u2 u3 y0 y1 = some cs9 → ∀ (H : Heap) (locs : List Loc) (ls : Array Slot), va_P (dC, dI) vwCl (cW cB cI cJ cZ cS cO b cs1) H → va_D A (cW cB cI cJ cZ cS cO b cs1) → va_S A s.heap H locs → lv_has ls 4 [(0, .ref (b + u0)), (1, .ref (b + u1)), (2, .int u2), (3, .ref (b + u3))] → W p l e (headSpec (wsOf yX0_checkQuery cX0_checkQuery 4 none) ({ frames := n + 1 + 6, cells := 0, slots := 0, locals := 60 * (n + 1 + 6) } : Room)).room s m ([.ref (b + x0), .ref (b + x1)] : List Value).toArray below meth c H locs 0 0 (MQ below (va_Qv (fun (_ : Unit) => True) (fun _ t_ => va_P (dC, dI) vwCl (cW cB cI cJ cZ cS cO b cs9) t_.heap ∧ va_D A (cW cB cI cJ cZ cS cO b cs9)) A) ([.ref (b + x0), .ref (b + x1)] : List Value).toArray s 0 0 A) (F0 m 57 ls [.int y0, .ref (b + y1)]) := by
        intro cs1 u0 u1 u2 u3 y0 y1 h H locs ls hP hD hS hl
        unfold c_X0_checkQuery_b57 at h
        replace h := ob h; obtain ⟨w_11, hw_11, h⟩ := h
        replace h := ob h; obtain ⟨cs_10, hv_10, h⟩ := h
        refine fp_X0_56 hx hb hts hown hK hP hD hS (ckZ_some hw_11) hv_10 dX0_checkQuery_57 (fun H locs hP hD hS => ?_)
        refine lv_iload_n hx hb dX0_checkQuery_60 rfl (lv_at hl 2 rfl) ?_
        refine lv_if_le (tgt := 70) hx hb dX0_checkQuery_61 (by decide) (fun c_12 => ?_) (fun c_12 => ?_)
        · skip
          replace h := (if_pos c_12).symm.trans h
          exact B_70 cs_10 u0 u1 u2 h _ _ _ hP hD hS (lv_sub hl [0, 1, 2] rfl)
        · skip
          replace h := (if_neg c_12).symm.trans h
          refine lv_aload_n hx hb dX0_checkQuery_64 rfl (lv_at hl 0 rfl) ?_
          refine lv_aload_n hx hb dX0_checkQuery_65 rfl (lv_at hl 1 rfl) ?_
          refine lv_aload_n hx hb dX0_checkQuery_66 rfl (lv_at hl 3 rfl) ?_
          replace h := ob h; obtain ⟨w_14, hw_14, h⟩ := h
          replace h := ob h; obtain ⟨cs_13, hv_13, h⟩ := h
          refine ccV (As := [.ref (b + u1), .ref (b + u3)]) hx hb hml hts hown hK hP hD hS hA hZ (X := 1) (by decide) rfl (ckE_some hw_14) (sc_X0_checkSet l dC dI cB cI cJ cZ cS cO b K V fz F cs_10 u0 u1 u3 cs_13 hv_13) (cw_X0_X0_checkSet hts (fr := 2) (by show 2 + 1 ≤ n + 1 + 6; omega) (by show 8 + (3 + 11) + 60 * (2) ≤ 60 * (n + 1 + 6); omega)) rfl hl.1 (Nat.le_of_ble_eq_true rfl) ⟨Nat.zero_le _, Nat.zero_le _⟩ dX0_checkQuery_67 (fun H locs hP hD hS => ?_)
          exact B_70 cs_13 u0 u1 u2 h _ _ _ hP hD hS (lv_sub hl [0, 1, 2] rfl)
      have B_52 : ∀ (cs1 : CS) (u0 : Nat) (u1 : Nat) (u2 : Int32) (u3 : Nat) (y0 : Nat), c_X0_checkQuery_b52 F T (c_X0_checkQuery_L2 F T lf_2) cs1 u0 u1 u2 u3 y0 = some cs9 → ∀ (H : Heap) (locs : List Loc) (ls : Array Slot), va_P (dC, dI) vwCl (cW cB cI cJ cZ cS cO b cs1) H → va_D A (cW cB cI cJ cZ cS cO b cs1) → va_S A s.heap H locs → lv_has ls 4 [(0, .ref (b + u0)), (1, .ref (b + u1)), (2, .int u2), (3, .ref (b + u3))] → W p l e (headSpec (wsOf yX0_checkQuery cX0_checkQuery 4 none) ({ frames := n + 1 + 6, cells := 0, slots := 0, locals := 60 * (n + 1 + 6) } : Room)).room s m ([.ref (b + x0), .ref (b + x1)] : List Value).toArray below meth c H locs 0 0 (MQ below (va_Qv (fun (_ : Unit) => True) (fun _ t_ => va_P (dC, dI) vwCl (cW cB cI cJ cZ cS cO b cs9) t_.heap ∧ va_D A (cW cB cI cJ cZ cS cO b cs9)) A) ([.ref (b + x0), .ref (b + x1)] : List Value).toArray s 0 0 A) (F0 m 52 ls [.ref (b + y0)]) := by
        intro cs1 u0 u1 u2 u3 y0 h H locs ls hP hD hS hl
        unfold c_X0_checkQuery_b52 at h
        refine lv_iconst (v := 1) hx hb dX0_checkQuery_52 (by decide) ?_
        refine lv_goto (tgt := 57) hx hb dX0_checkQuery_53 (by decide) ?_
        exact B_57 cs1 u0 u1 u2 u3 1 y0 h _ _ _ hP hD hS (lv_sub hl [0, 1, 2, 3] rfl)
      intro cs1 u0 u1 u2 h H locs ls hP hD hS hl
      rw [c_X0_checkQuery_L2] at h
      refine lv_iload_n hx hb dX0_checkQuery_2 rfl (lv_at hl 2 rfl) ?_
      refine lv_aload_n hx hb dX0_checkQuery_3 rfl (lv_at hl 1 rfl) ?_
      replace h := ob h; obtain ⟨v_15, hv_15, h⟩ := h
      refine fg_X0_30 hx hb hts hown hK hP hv_15 dX0_checkQuery_4 ?_
      replace h := ob h; obtain ⟨i_17, hi_17, h⟩ := h
      subst hi_17
      replace h := ob h; obtain ⟨w_18, hw_18, h⟩ := h
      replace h := ob h; obtain ⟨v_16, hv_16, h⟩ := h
      refine ccI (As := []) hx hb hml hts hown hK hP hD hS hA hZ (X := 0) (by decide) rfl (ckE_some hw_18) (sc_Jx4a65c_size_8abf5 l dC dI cB cI cJ cZ cS cO b K V fz F cs1 i_17 v_16 hv_16) (cw_X0_Jx4a65c_size_8abf5 hts (fr := 0) (by show 0 + 1 ≤ n + 1 + 6; omega) (by show 8 + (1 + 11) + 60 * (0) ≤ 60 * (n + 1 + 6); omega)) rfl hl.1 (Nat.le_of_ble_eq_true rfl) ⟨Nat.zero_le _, Nat.zero_le _⟩ dX0_checkQuery_7 (fun H locs hP hD hS => ?_)
      refine lv_icmp_ge (tgt := 76) hx hb dX0_checkQuery_10 (by decide) (fun c_19 => ?_) (fun c_19 => ?_)
      · skip
        replace h := (if_pos c_19).symm.trans h
        exact B_76 cs1 u0 u1 h _ _ _ hP hD hS (lv_sub hl [0, 1] rfl)
      · skip
        replace h := (if_neg c_19).symm.trans h
        refine lv_aload_n hx hb dX0_checkQuery_13 rfl (lv_at hl 0 rfl) ?_
        replace h := ob h; obtain ⟨w_21, hw_21, h⟩ := h
        replace h := ob h; obtain ⟨v_20, hv_20, h⟩ := h
        refine ccI (As := []) hx hb hml hts hown hK hP hD hS hA hZ (X := 1) (by decide) rfl (ckE_some hw_21) (sc_X0_isFaulty l dC dI cB cI cJ cZ cS cO b K V fz F cs1 u0 v_20 hv_20) (cw_X0_X0_isFaulty hts (fr := 0) (by show 0 + 1 ≤ n + 1 + 6; omega) (by show 8 + (1 + 11) + 60 * (0) ≤ 60 * (n + 1 + 6); omega)) rfl hl.1 (Nat.le_of_ble_eq_true rfl) ⟨Nat.zero_le _, Nat.zero_le _⟩ dX0_checkQuery_14 (fun H locs hP hD hS => ?_)
        refine lv_if_ne (tgt := 76) hx hb dX0_checkQuery_17 (by decide) (fun c_22 => ?_) (fun c_22 => ?_)
        · skip
          replace h := (if_neg c_22).symm.trans h
          exact B_76 cs1 u0 u1 h _ _ _ hP hD hS (lv_sub hl [0, 1] rfl)
        · skip
          replace h := (if_pos c_22).symm.trans h
          refine lv_aload_n hx hb dX0_checkQuery_20 rfl (lv_at hl 1 rfl) ?_
          replace h := ob h; obtain ⟨v_23, hv_23, h⟩ := h
          refine fg_X0_30 hx hb hts hown hK hP hv_23 dX0_checkQuery_21 ?_
          refine lv_iload_n hx hb dX0_checkQuery_24 rfl (lv_at hl 2 rfl) ?_
          replace h := ob h; obtain ⟨i_25, hi_25, h⟩ := h
          subst hi_25
          replace h := ob h; obtain ⟨w_26, hw_26, h⟩ := h
          replace h := ob h; obtain ⟨v_24, hv_24, h⟩ := h
          refine ccR (As := [.int u2]) hx hb hml hts hown hK hP hD hS hA hZ (X := 0) (by decide) rfl (ckE_some hw_26) (sc_Jx4a65c_get_915e3 l dC dI cB cI cJ cZ cS cO b K V fz F cs1 i_25 u2 v_24 hv_24) (cw_X0_Jx4a65c_get_915e3 hts (fr := 2) (by show 2 + 1 ≤ n + 1 + 6; omega) (by show 8 + (2 + 11) + 60 * (2) ≤ 60 * (n + 1 + 6); omega)) rfl hl.1 (Nat.le_of_ble_eq_true rfl) ⟨Nat.zero_le _, Nat.zero_le _⟩ dX0_checkQuery_25 (fun H locs hP hD hS => ?_)
          replace h := ob h; obtain ⟨w_27, hw_27, h⟩ := h
          obtain ⟨k_27, -, hg_27⟩ := cO_at (b := b) (cB := cB) (cI := cI) (cJ := cJ) (cZ := cZ) (cS := cS) (cO := cO) (by decide) (ckE_some hw_27)
          refine va_castY (C := RX5) hx hb hown (hts _ (List.mem_cons_of_mem _ kw_1194)) hZ.cSS (va_recv hK hP (ci := 6) (q0 := k_27) rfl hg_27) dX0_checkQuery_28 ?_
          refine lv_astore_n (lv' := [(3, .ref (b + v_24)), (0, .ref (b + u0)), (1, .ref (b + u1)), (2, .int u2)]) hx hb dX0_checkQuery_31 rfl hl (by decide) rfl (fun ls hl => ?_)
          refine lv_aload_n hx hb dX0_checkQuery_32 rfl (lv_at hl 1 rfl) ?_
          refine lv_aload_n hx hb dX0_checkQuery_33 rfl (lv_at hl 0 rfl) ?_
          replace h := ob h; obtain ⟨w_29, hw_29, h⟩ := h
          replace h := ob h; obtain ⟨cs_28, hv_28, h⟩ := h
          refine ccV (As := [.ref (b + v_24)]) hx hb hml hts hown hK hP hD hS hA hZ (X := 1) (by decide) rfl (ckE_some hw_29) (hT_X0_checkSelect cs1 u0 v_24 cs_28 hv_28) (cw_X0_X0_checkSelect hts (fr := n + 6) (by show n + 6 + 1 ≤ n + 1 + 6; omega) (by show 8 + (3 + 11) + 60 * (n + 6) ≤ 60 * (n + 1 + 6); omega)) rfl hl.1 (Nat.le_of_ble_eq_true rfl) ⟨Nat.zero_le _, Nat.zero_le _⟩ dX0_checkQuery_34 (fun H locs hP hD hS => ?_)
          refine lv_aload_n hx hb dX0_checkQuery_37 rfl (lv_at hl 2 rfl) ?_
          refine lv_aload_n hx hb dX0_checkQuery_38 rfl (lv_at hl 2 rfl) ?_
          replace h := ob h; obtain ⟨v_30, hv_30, h⟩ := h
          refine fg_X0_56 hx hb hts hown hK hP hv_30 dX0_checkQuery_39 ?_
          refine lv_if_ne (tgt := 52) hx hb dX0_checkQuery_42 (by decide) (fun c_31 => ?_) (fun c_31 => ?_)
          · skip
            replace h := (if_neg c_31).symm.trans h
            exact B_52 cs_28 u0 u1 u2 v_24 u1 h _ _ _ hP hD hS (lv_sub hl [1, 2, 3, 0] rfl)
          · skip
            replace h := (if_pos c_31).symm.trans h
            refine lv_aload_n hx hb dX0_checkQuery_45 rfl (lv_at hl 0 rfl) ?_
            replace h := ob h; obtain ⟨v_32, hv_32, h⟩ := h
            refine fg_X0_60 hx hb hts hown hK hP hv_32 dX0_checkQuery_46 ?_
            refine lv_if_eq (tgt := 56) hx hb dX0_checkQuery_49 (by decide) (fun c_33 => ?_) (fun c_33 => ?_)
            · skip
              replace h := (if_pos c_33).symm.trans h
              refine lv_iconst (v := 0) hx hb dX0_checkQuery_56 (by decide) ?_
              exact B_57 cs_28 u0 u1 u2 v_24 0 u1 h _ _ _ hP hD hS (lv_sub hl [1, 2, 3, 0] rfl)
            · skip
              replace h := (if_neg c_33).symm.trans h
              exact B_52 cs_28 u0 u1 u2 v_24 u1 h _ _ _ hP hD hS (lv_sub hl [1, 2, 3, 0] rfl)
  have h := hf
  unfold cb_X0_checkQuery at h
  refine lv_iconst (v := 0) hx hb dX0_checkQuery_0 (by decide) ?_
  refine lv_istore_n (lv' := [(2, .int 0), (0, .ref (b + x0)), (1, .ref (b + x1))]) hx hb dX0_checkQuery_1 rfl hl (by decide) rfl (fun ls hl => ?_)
  exact L_2 F cs x0 x1 0 h _ _ _ hP hD hS (lv_sub hl [1, 2, 0] rfl)
set_option maxHeartbeats 4000000 in
set_option maxRecDepth 100000 in
theorem sbc_X0_checkSelect (l : Launch) (dC : Nat → ClassId) (dI : Nat → Nat → Nat) (cB cI cJ cZ cS cO : ClassId) (b : Nat) (K V : Nat → Nat) (fz : Value) (F : Nat) (n : Nat) (T : TC_X0_checkQuery) (hT_X0_checkQuery : ∀ (cs : CS) (x0 : Nat) (x1 : Nat) (cs9 : CS), T.1 cs x0 x1 = some cs9 → ocV l dC dI cB cI cJ cZ cS cO b K V fz yX0_checkQuery (wsOf yX0_checkQuery cX0_checkQuery 4 none) (n + 6) [.ref (b + x0), .ref (b + x1)] cs cs9) (hT_X0_checkSelect : ∀ (cs : CS) (x0 : Nat) (x1 : Nat) (cs9 : CS), T.2.1 cs x0 x1 = some cs9 → ocV l dC dI cB cI cJ cZ cS cO b K V fz yX0_checkSelect (wsOf yX0_checkSelect cX0_checkSelect 3 none) (n + 6) [.ref (b + x0), .ref (b + x1)] cs cs9) (hT_X0_checkSource : ∀ (cs : CS) (x0 : Nat) (x1 : Nat) (x2 : Int32) (cs9 : CS), T.2.2.1 cs x0 x1 x2 = some cs9 → ocV l dC dI cB cI cJ cZ cS cO b K V fz yX0_checkSource (wsOf yX0_checkSource cX0_checkSource 6 none) (n + 6) [.ref (b + x0), .ref (b + x1), .int x2] cs cs9) (hT_X0_checkInner : ∀ (cs : CS) (x0 : Nat) (x1 : Nat) (x2 : Nat) (cs9 : CS), T.2.2.2 cs x0 x1 x2 = some cs9 → ocV l dC dI cB cI cJ cZ cS cO b K V fz yX0_checkInner (wsOf yX0_checkInner cX0_checkInner 5 none) (n + 6) [.ref (b + x0), .ref (b + x1), .ref (b + x2)] cs cs9) (cs : CS) (x0 : Nat) (x1 : Nat) (cs9 : CS) (hf : cb_X0_checkSelect F T cs x0 x1 = some cs9) : ocV l dC dI cB cI cJ cZ cS cO b K V fz yX0_checkSelect (wsOf yX0_checkSelect cX0_checkSelect 3 none) (n + 1 + 6) [.ref (b + x0), .ref (b + x1)] cs cs9 := by
  intro sz
  refine Met.ofW (cc := cX0_checkSelect) (maxL := 3) (ret := none) (by decide) rfl ?_
  intro p e s m args below meth c s₁ B hml hv
  obtain ⟨rfl, hsz, hP, hK, hD0, hZ⟩ := hv
  have hx := B.exec
  have hb := B.bytes
  have hr := B.returns
  have hts := atoms_spec (ws := (wsOf yX0_checkSelect cX0_checkSelect 3 none)) B.pre
  have hown : s.vm.findClass RX0 = some m.cls := findClass_of_methodNamed B.named
  have hlocks := B.notSynchronized
  subst hsz
  have hD := hD0.self (sz := s.heap.size)
  generalize hAe : va_A (cW cB cI cJ cZ cS cO b cs) s.heap.size = A at hD hZ ⊢
  have hA : ∀ q : Nat, s.heap.size ≤ q → A q := fun q h => by rw [← hAe]; exact Or.inr h
  have hS : va_S A s.heap s.heap [] := va_S.rf
  have hl := lv_entry ([.ref (b + x0), .ref (b + x1)]) (n := 3) (Nat.le_of_ble_eq_true rfl)
  rw [lg_entry_eq]
  generalize (lg_sl ([.ref (b + x0), .ref (b + x1)]) ++ List.replicate (3 - (lg_sl ([.ref (b + x0), .ref (b + x1)])).length) Slot.unset).toArray = ls at hl ⊢
  have hl : lv_has ls 3 [(0, .ref (b + x0)), (1, .ref (b + x1))] := hl
  have B_119 : ∀ (cs1 : CS) , c_X0_checkSelect_b119 F T cs1 = some cs9 → ∀ (H : Heap) (locs : List Loc) (ls : Array Slot), va_P (dC, dI) vwCl (cW cB cI cJ cZ cS cO b cs1) H → va_D A (cW cB cI cJ cZ cS cO b cs1) → va_S A s.heap H locs → lv_has ls 3 [] → W p l e (headSpec (wsOf yX0_checkSelect cX0_checkSelect 3 none) ({ frames := n + 1 + 6, cells := 0, slots := 0, locals := 60 * (n + 1 + 6) } : Room)).room s m ([.ref (b + x0), .ref (b + x1)] : List Value).toArray below meth c H locs 0 0 (MQ below (va_Qv (fun (_ : Unit) => True) (fun _ t_ => va_P (dC, dI) vwCl (cW cB cI cJ cZ cS cO b cs9) t_.heap ∧ va_D A (cW cB cI cJ cZ cS cO b cs9)) A) ([.ref (b + x0), .ref (b + x1)] : List Value).toArray s 0 0 A) (F0 m 119 ls []) := by
    intro cs1  h H locs ls hP hD hS hl
    unfold c_X0_checkSelect_b119 at h
    have e1 := Option.some.inj h
    rw [e1] at hP hD
    exact W.vret hx hb hr (fun t_ ht hW => ⟨⟨(), rfl, trivial, by rw [ht]; exact hP, hD⟩, hS.F ht⟩) hS.2.2 dX0_checkSelect_119
  have B_84 : ∀ (cs1 : CS) (u0 : Nat) (u1 : Nat), c_X0_checkSelect_b84 F T cs1 u0 u1 = some cs9 → ∀ (H : Heap) (locs : List Loc) (ls : Array Slot), va_P (dC, dI) vwCl (cW cB cI cJ cZ cS cO b cs1) H → va_D A (cW cB cI cJ cZ cS cO b cs1) → va_S A s.heap H locs → lv_has ls 3 [(0, .ref (b + u0)), (1, .ref (b + u1))] → W p l e (headSpec (wsOf yX0_checkSelect cX0_checkSelect 3 none) ({ frames := n + 1 + 6, cells := 0, slots := 0, locals := 60 * (n + 1 + 6) } : Room)).room s m ([.ref (b + x0), .ref (b + x1)] : List Value).toArray below meth c H locs 0 0 (MQ below (va_Qv (fun (_ : Unit) => True) (fun _ t_ => va_P (dC, dI) vwCl (cW cB cI cJ cZ cS cO b cs9) t_.heap ∧ va_D A (cW cB cI cJ cZ cS cO b cs9)) A) ([.ref (b + x0), .ref (b + x1)] : List Value).toArray s 0 0 A) (F0 m 84 ls []) := by
    intro cs1 u0 u1 h H locs ls hP hD hS hl
    unfold c_X0_checkSelect_b84 at h
    refine lv_aload_n hx hb dX0_checkSelect_84 rfl (lv_at hl 0 rfl) ?_
    refine lv_aload_n hx hb dX0_checkSelect_85 rfl (lv_at hl 1 rfl) ?_
    replace h := ob h; obtain ⟨v_1, hv_1, h⟩ := h
    refine fg_X0_144 hx hb hts hown hK hP hv_1 dX0_checkSelect_86 ?_
    replace h := ob h; obtain ⟨w_3, hw_3, h⟩ := h
    replace h := ob h; obtain ⟨cs_2, hv_2, h⟩ := h
    refine ccV (As := [.int v_1]) hx hb hml hts hown hK hP hD hS hA hZ (X := 1) (by decide) rfl (ckE_some hw_3) (sc_X0_checkTruth l dC dI cB cI cJ cZ cS cO b K V fz F cs1 u0 v_1 cs_2 hv_2) (cw_X0_X0_checkTruth hts (fr := 4) (by show 4 + 1 ≤ n + 1 + 6; omega) (by show 8 + (2 + 11) + 60 * (4) ≤ 60 * (n + 1 + 6); omega)) rfl hl.1 (Nat.le_of_ble_eq_true rfl) ⟨Nat.zero_le _, Nat.zero_le _⟩ dX0_checkSelect_89 (fun H locs hP hD hS => ?_)
    refine lv_aload_n hx hb dX0_checkSelect_92 rfl (lv_at hl 0 rfl) ?_
    refine lv_aload_n hx hb dX0_checkSelect_93 rfl (lv_at hl 1 rfl) ?_
    replace h := ob h; obtain ⟨v_4, hv_4, h⟩ := h
    refine fg_X0_93 hx hb hts hown hK hP hv_4 dX0_checkSelect_94 ?_
    replace h := ob h; obtain ⟨i_5, hi_5, h⟩ := h
    subst hi_5
    replace h := ob h; obtain ⟨w_7, hw_7, h⟩ := h
    replace h := ob h; obtain ⟨cs_6, hv_6, h⟩ := h
    refine ccV (As := [.ref (b + i_5)]) hx hb hml hts hown hK hP hD hS hA hZ (X := 1) (by decide) rfl (ckE_some hw_7) (sc_X0_checkColumns l dC dI cB cI cJ cZ cS cO b K V fz F cs_2 u0 i_5 cs_6 hv_6) (cw_X0_X0_checkColumns hts (fr := 4) (by show 4 + 1 ≤ n + 1 + 6; omega) (by show 8 + (3 + 11) + 60 * (4) ≤ 60 * (n + 1 + 6); omega)) rfl hl.1 (Nat.le_of_ble_eq_true rfl) ⟨Nat.zero_le _, Nat.zero_le _⟩ dX0_checkSelect_97 (fun H locs hP hD hS => ?_)
    refine lv_aload_n hx hb dX0_checkSelect_100 rfl (lv_at hl 1 rfl) ?_
    replace h := ob h; obtain ⟨v_8, hv_8, h⟩ := h
    refine fg_X0_147 hx hb hts hown hK hP hv_8 dX0_checkSelect_101 ?_
    refine lv_if_eq (tgt := 119) hx hb dX0_checkSelect_104 (by decide) (fun c_9 => ?_) (fun c_9 => ?_)
    · skip
      replace h := (if_pos c_9).symm.trans h
      exact B_119 cs_6 h _ _ _ hP hD hS (lv_sub hl [] rfl)
    · skip
      replace h := (if_neg c_9).symm.trans h
      refine lv_aload_n hx hb dX0_checkSelect_107 rfl (lv_at hl 0 rfl) ?_
      refine lv_aload_n hx hb dX0_checkSelect_108 rfl (lv_at hl 1 rfl) ?_
      replace h := ob h; obtain ⟨v_10, hv_10, h⟩ := h
      refine fg_X0_60 hx hb hts hown hK hP hv_10 dX0_checkSelect_109 ?_
      refine lv_aload_n hx hb dX0_checkSelect_112 rfl (lv_at hl 1 rfl) ?_
      replace h := ob h; obtain ⟨v_11, hv_11, h⟩ := h
      refine fg_X0_150 hx hb hts hown hK hP hv_11 dX0_checkSelect_113 ?_
      replace h := ob h; obtain ⟨w_13, hw_13, h⟩ := h
      replace h := ob h; obtain ⟨cs_12, hv_12, h⟩ := h
      refine ccV (As := [.int v_10, .int v_11]) hx hb hml hts hown hK hP hD hS hA hZ (X := 1) (by decide) rfl (ckE_some hw_13) (sc_X0_checkBound l dC dI cB cI cJ cZ cS cO b K V fz F cs_6 u0 v_10 v_11 cs_12 hv_12) (cw_X0_X0_checkBound hts (fr := 1) (by show 1 + 1 ≤ n + 1 + 6; omega) (by show 8 + (3 + 11) + 60 * (1) ≤ 60 * (n + 1 + 6); omega)) rfl hl.1 (Nat.le_of_ble_eq_true rfl) ⟨Nat.zero_le _, Nat.zero_le _⟩ dX0_checkSelect_116 (fun H locs hP hD hS => ?_)
      exact B_119 cs_12 h _ _ _ hP hD hS (lv_sub hl [] rfl)
  have B_38 : ∀ (cs1 : CS) (u0 : Nat) (u1 : Nat), c_X0_checkSelect_b38 F T cs1 u0 u1 = some cs9 → ∀ (H : Heap) (locs : List Loc) (ls : Array Slot), va_P (dC, dI) vwCl (cW cB cI cJ cZ cS cO b cs1) H → va_D A (cW cB cI cJ cZ cS cO b cs1) → va_S A s.heap H locs → lv_has ls 3 [(0, .ref (b + u0)), (1, .ref (b + u1))] → W p l e (headSpec (wsOf yX0_checkSelect cX0_checkSelect 3 none) ({ frames := n + 1 + 6, cells := 0, slots := 0, locals := 60 * (n + 1 + 6) } : Room)).room s m ([.ref (b + x0), .ref (b + x1)] : List Value).toArray below meth c H locs 0 0 (MQ below (va_Qv (fun (_ : Unit) => True) (fun _ t_ => va_P (dC, dI) vwCl (cW cB cI cJ cZ cS cO b cs9) t_.heap ∧ va_D A (cW cB cI cJ cZ cS cO b cs9)) A) ([.ref (b + x0), .ref (b + x1)] : List Value).toArray s 0 0 A) (F0 m 38 ls []) := by
    intro cs1 u0 u1 h H locs ls hP hD hS hl
    unfold c_X0_checkSelect_b38 at h
    refine lv_aload_n hx hb dX0_checkSelect_38 rfl (lv_at hl 0 rfl) ?_
    refine lv_aload_n hx hb dX0_checkSelect_39 rfl (lv_at hl 1 rfl) ?_
    replace h := ob h; obtain ⟨cs_14, hv_14, h⟩ := h
    refine fp_X0_121 (v := (some u1)) hx hb hts hown hK hP hD hS hv_14 dX0_checkSelect_40 (fun H locs hP hD hS => ?_)
    refine lv_aload_n hx hb dX0_checkSelect_43 rfl (lv_at hl 0 rfl) ?_
    refine lv_aload_n hx hb dX0_checkSelect_44 rfl (lv_at hl 1 rfl) ?_
    replace h := ob h; obtain ⟨v_15, hv_15, h⟩ := h
    refine fg_X0_110 hx hb hts hown hK hP hv_15 dX0_checkSelect_45 ?_
    replace h := ob h; obtain ⟨cs_16, hv_16, h⟩ := h
    refine fp_X0_125 hx hb hts hown hK hP hD hS hv_16 dX0_checkSelect_48 (fun H locs hP hD hS => ?_)
    refine lv_aload_n hx hb dX0_checkSelect_51 rfl (lv_at hl 0 rfl) ?_
    refine lv_null hx hb dX0_checkSelect_52 ?_
    replace h := ob h; obtain ⟨cs_17, hv_17, h⟩ := h
    refine fp_X0_103 (v := none) hx hb hts hown hK hP hD hS hv_17 dX0_checkSelect_53 (fun H locs hP hD hS => ?_)
    refine lv_aload_n hx hb dX0_checkSelect_56 rfl (lv_at hl 0 rfl) ?_
    refine lv_aload_n hx hb dX0_checkSelect_57 rfl (lv_at hl 1 rfl) ?_
    replace h := ob h; obtain ⟨v_18, hv_18, h⟩ := h
    refine fg_X0_128 hx hb hts hown hK hP hv_18 dX0_checkSelect_58 ?_
    replace h := ob h; obtain ⟨w_20, hw_20, h⟩ := h
    replace h := ob h; obtain ⟨cs_19, hv_19, h⟩ := h
    refine ccV (As := [.int v_18]) hx hb hml hts hown hK hP hD hS hA hZ (X := 1) (by decide) rfl (ckE_some hw_20) (sc_X0_checkTruth l dC dI cB cI cJ cZ cS cO b K V fz F cs_17 u0 v_18 cs_19 hv_19) (cw_X0_X0_checkTruth hts (fr := 4) (by show 4 + 1 ≤ n + 1 + 6; omega) (by show 8 + (2 + 11) + 60 * (4) ≤ 60 * (n + 1 + 6); omega)) rfl hl.1 (Nat.le_of_ble_eq_true rfl) ⟨Nat.zero_le _, Nat.zero_le _⟩ dX0_checkSelect_61 (fun H locs hP hD hS => ?_)
    refine lv_aload_n hx hb dX0_checkSelect_64 rfl (lv_at hl 0 rfl) ?_
    refine lv_aload_n hx hb dX0_checkSelect_65 rfl (lv_at hl 1 rfl) ?_
    replace h := ob h; obtain ⟨w_22, hw_22, h⟩ := h
    replace h := ob h; obtain ⟨cs_21, hv_21, h⟩ := h
    refine ccV (As := [.ref (b + u1)]) hx hb hml hts hown hK hP hD hS hA hZ (X := 1) (by decide) rfl (ckE_some hw_22) (sc_X0_checkGroups l dC dI cB cI cJ cZ cS cO b K V fz F cs_19 u0 u1 cs_21 hv_21) (cw_X0_X0_checkGroups hts (fr := 4) (by show 4 + 1 ≤ n + 1 + 6; omega) (by show 8 + (4 + 11) + 60 * (4) ≤ 60 * (n + 1 + 6); omega)) rfl hl.1 (Nat.le_of_ble_eq_true rfl) ⟨Nat.zero_le _, Nat.zero_le _⟩ dX0_checkSelect_66 (fun H locs hP hD hS => ?_)
    refine lv_aload_n hx hb dX0_checkSelect_69 rfl (lv_at hl 1 rfl) ?_
    replace h := ob h; obtain ⟨w_24, hw_24, h⟩ := h
    replace h := ob h; obtain ⟨v_23, hv_23, h⟩ := h
    refine ccI (As := []) hx hb hml hts hown hK hP hD hS hA hZ (X := 6) (by decide) rfl (ckE_some hw_24) (sc_X5_isGrouped l dC dI cB cI cJ cZ cS cO b K V fz F cs_21 u1 v_23 hv_23) (cw_X0_X5_isGrouped hts (fr := 0) (by show 0 + 1 ≤ n + 1 + 6; omega) (by show 8 + (1 + 11) + 60 * (0) ≤ 60 * (n + 1 + 6); omega)) rfl hl.1 (Nat.le_of_ble_eq_true rfl) ⟨Nat.zero_le _, Nat.zero_le _⟩ dX0_checkSelect_70 (fun H locs hP hD hS => ?_)
    refine lv_if_eq (tgt := 84) hx hb dX0_checkSelect_73 (by decide) (fun c_25 => ?_) (fun c_25 => ?_)
    · skip
      replace h := (if_pos c_25).symm.trans h
      exact B_84 cs_21 u0 u1 h _ _ _ hP hD hS (lv_sub hl [0, 1] rfl)
    · skip
      replace h := (if_neg c_25).symm.trans h
      refine lv_aload_n hx hb dX0_checkSelect_76 rfl (lv_at hl 0 rfl) ?_
      refine lv_aload_n hx hb dX0_checkSelect_77 rfl (lv_at hl 1 rfl) ?_
      replace h := ob h; obtain ⟨v_26, hv_26, h⟩ := h
      refine fg_X0_141 hx hb hts hown hK hP hv_26 dX0_checkSelect_78 ?_
      replace h := ob h; obtain ⟨cs_27, hv_27, h⟩ := h
      refine fp_X0_103 (v := v_26) hx hb hts hown hK hP hD hS hv_27 dX0_checkSelect_81 (fun H locs hP hD hS => ?_)
      exact B_84 cs_27 u0 u1 h _ _ _ hP hD hS (lv_sub hl [0, 1] rfl)
  have L_2 : ∀ (lf_2 : Nat), ∀ (cs1 : CS) (u0 : Nat) (u1 : Nat) (u2 : Int32), c_X0_checkSelect_L2 F T lf_2 cs1 u0 u1 u2 = some cs9 → ∀ (H : Heap) (locs : List Loc) (ls : Array Slot), va_P (dC, dI) vwCl (cW cB cI cJ cZ cS cO b cs1) H → va_D A (cW cB cI cJ cZ cS cO b cs1) → va_S A s.heap H locs → lv_has ls 3 [(0, .ref (b + u0)), (1, .ref (b + u1)), (2, .int u2)] → W p l e (headSpec (wsOf yX0_checkSelect cX0_checkSelect 3 none) ({ frames := n + 1 + 6, cells := 0, slots := 0, locals := 60 * (n + 1 + 6) } : Room)).room s m ([.ref (b + x0), .ref (b + x1)] : List Value).toArray below meth c H locs 0 0 (MQ below (va_Qv (fun (_ : Unit) => True) (fun _ t_ => va_P (dC, dI) vwCl (cW cB cI cJ cZ cS cO b cs9) t_.heap ∧ va_D A (cW cB cI cJ cZ cS cO b cs9)) A) ([.ref (b + x0), .ref (b + x1)] : List Value).toArray s 0 0 A) (F0 m 2 ls []) := by
    intro lf_2
    induction lf_2 with
    | zero => intro cs1 u0 u1 u2 h; cases (show (none : Option CS) = _ from h)
    | succ lf_2 ih_2 =>
      intro cs1 u0 u1 u2 h H locs ls hP hD hS hl
      rw [c_X0_checkSelect_L2] at h
      refine lv_iload_n hx hb dX0_checkSelect_2 rfl (lv_at hl 2 rfl) ?_
      refine lv_aload_n hx hb dX0_checkSelect_3 rfl (lv_at hl 1 rfl) ?_
      replace h := ob h; obtain ⟨v_28, hv_28, h⟩ := h
      refine fg_X0_110 hx hb hts hown hK hP hv_28 dX0_checkSelect_4 ?_
      refine lv_icmp_ge (tgt := 38) hx hb dX0_checkSelect_7 (by decide) (fun c_29 => ?_) (fun c_29 => ?_)
      · skip
        replace h := (if_pos c_29).symm.trans h
        exact B_38 cs1 u0 u1 h _ _ _ hP hD hS (lv_sub hl [0, 1] rfl)
      · skip
        replace h := (if_neg c_29).symm.trans h
        refine lv_iload_n hx hb dX0_checkSelect_10 rfl (lv_at hl 2 rfl) ?_
        refine lv_aload_n hx hb dX0_checkSelect_11 rfl (lv_at hl 1 rfl) ?_
        replace h := ob h; obtain ⟨v_30, hv_30, h⟩ := h
        refine fg_X0_113 hx hb hts hown hK hP hv_30 dX0_checkSelect_12 ?_
        replace h := ob h; obtain ⟨v_31, hv_31, h⟩ := h
        refine alen3 hx hb hK hP rfl hv_31 dX0_checkSelect_15 ?_
        refine lv_icmp_ge (tgt := 38) hx hb dX0_checkSelect_16 (by decide) (fun c_32 => ?_) (fun c_32 => ?_)
        · skip
          replace h := (if_pos c_32).symm.trans h
          exact B_38 cs1 u0 u1 h _ _ _ hP hD hS (lv_sub hl [0, 1] rfl)
        · skip
          replace h := (if_neg c_32).symm.trans h
          refine lv_aload_n hx hb dX0_checkSelect_19 rfl (lv_at hl 0 rfl) ?_
          replace h := ob h; obtain ⟨w_34, hw_34, h⟩ := h
          replace h := ob h; obtain ⟨v_33, hv_33, h⟩ := h
          refine ccI (As := []) hx hb hml hts hown hK hP hD hS hA hZ (X := 1) (by decide) rfl (ckE_some hw_34) (sc_X0_isFaulty l dC dI cB cI cJ cZ cS cO b K V fz F cs1 u0 v_33 hv_33) (cw_X0_X0_isFaulty hts (fr := 0) (by show 0 + 1 ≤ n + 1 + 6; omega) (by show 8 + (1 + 11) + 60 * (0) ≤ 60 * (n + 1 + 6); omega)) rfl hl.1 (Nat.le_of_ble_eq_true rfl) ⟨Nat.zero_le _, Nat.zero_le _⟩ dX0_checkSelect_20 (fun H locs hP hD hS => ?_)
          refine lv_if_ne (tgt := 38) hx hb dX0_checkSelect_23 (by decide) (fun c_35 => ?_) (fun c_35 => ?_)
          · skip
            replace h := (if_neg c_35).symm.trans h
            exact B_38 cs1 u0 u1 h _ _ _ hP hD hS (lv_sub hl [0, 1] rfl)
          · skip
            replace h := (if_pos c_35).symm.trans h
            refine lv_aload_n hx hb dX0_checkSelect_26 rfl (lv_at hl 0 rfl) ?_
            refine lv_aload_n hx hb dX0_checkSelect_27 rfl (lv_at hl 1 rfl) ?_
            refine lv_iload_n hx hb dX0_checkSelect_28 rfl (lv_at hl 2 rfl) ?_
            replace h := ob h; obtain ⟨w_37, hw_37, h⟩ := h
            replace h := ob h; obtain ⟨cs_36, hv_36, h⟩ := h
            refine ccV (As := [.ref (b + u1), .int u2]) hx hb hml hts hown hK hP hD hS hA hZ (X := 1) (by decide) rfl (ckE_some hw_37) (hT_X0_checkSource cs1 u0 u1 u2 cs_36 hv_36) (cw_X0_X0_checkSource hts (fr := n + 6) (by show n + 6 + 1 ≤ n + 1 + 6; omega) (by show 8 + (6 + 11) + 60 * (n + 6) ≤ 60 * (n + 1 + 6); omega)) rfl hl.1 (Nat.le_of_ble_eq_true rfl) ⟨Nat.zero_le _, Nat.zero_le _⟩ dX0_checkSelect_29 (fun H locs hP hD hS => ?_)
            refine lv_iinc (v := u2 + 1) (lv' := [(2, .int (u2 + 1)), (0, .ref (b + u0)), (1, .ref (b + u1))]) hx hb dX0_checkSelect_32 hl (k := 2) rfl rfl (by decide) rfl (fun ls hl => ?_)
            refine lv_goto (tgt := 2) hx hb dX0_checkSelect_35 (by decide) ?_
            exact ih_2 cs_36 u0 u1 (u2 + 1) h _ _ _ hP hD hS (lv_sub hl [1, 2, 0] rfl)
  have h := hf
  unfold cb_X0_checkSelect at h
  refine lv_iconst (v := 0) hx hb dX0_checkSelect_0 (by decide) ?_
  refine lv_istore_n (lv' := [(2, .int 0), (0, .ref (b + x0)), (1, .ref (b + x1))]) hx hb dX0_checkSelect_1 rfl hl (by decide) rfl (fun ls hl => ?_)
  exact L_2 F cs x0 x1 0 h _ _ _ hP hD hS (lv_sub hl [1, 2, 0] rfl)
set_option maxHeartbeats 4000000 in
set_option maxRecDepth 100000 in
theorem sbc_X0_checkSource (l : Launch) (dC : Nat → ClassId) (dI : Nat → Nat → Nat) (cB cI cJ cZ cS cO : ClassId) (b : Nat) (K V : Nat → Nat) (fz : Value) (F : Nat) (n : Nat) (T : TC_X0_checkQuery) (hT_X0_checkQuery : ∀ (cs : CS) (x0 : Nat) (x1 : Nat) (cs9 : CS), T.1 cs x0 x1 = some cs9 → ocV l dC dI cB cI cJ cZ cS cO b K V fz yX0_checkQuery (wsOf yX0_checkQuery cX0_checkQuery 4 none) (n + 6) [.ref (b + x0), .ref (b + x1)] cs cs9) (hT_X0_checkSelect : ∀ (cs : CS) (x0 : Nat) (x1 : Nat) (cs9 : CS), T.2.1 cs x0 x1 = some cs9 → ocV l dC dI cB cI cJ cZ cS cO b K V fz yX0_checkSelect (wsOf yX0_checkSelect cX0_checkSelect 3 none) (n + 6) [.ref (b + x0), .ref (b + x1)] cs cs9) (hT_X0_checkSource : ∀ (cs : CS) (x0 : Nat) (x1 : Nat) (x2 : Int32) (cs9 : CS), T.2.2.1 cs x0 x1 x2 = some cs9 → ocV l dC dI cB cI cJ cZ cS cO b K V fz yX0_checkSource (wsOf yX0_checkSource cX0_checkSource 6 none) (n + 6) [.ref (b + x0), .ref (b + x1), .int x2] cs cs9) (hT_X0_checkInner : ∀ (cs : CS) (x0 : Nat) (x1 : Nat) (x2 : Nat) (cs9 : CS), T.2.2.2 cs x0 x1 x2 = some cs9 → ocV l dC dI cB cI cJ cZ cS cO b K V fz yX0_checkInner (wsOf yX0_checkInner cX0_checkInner 5 none) (n + 6) [.ref (b + x0), .ref (b + x1), .ref (b + x2)] cs cs9) (cs : CS) (x0 : Nat) (x1 : Nat) (x2 : Int32) (cs9 : CS) (hf : cb_X0_checkSource F T cs x0 x1 x2 = some cs9) : ocV l dC dI cB cI cJ cZ cS cO b K V fz yX0_checkSource (wsOf yX0_checkSource cX0_checkSource 6 none) (n + 1 + 6) [.ref (b + x0), .ref (b + x1), .int x2] cs cs9 := by
  intro sz
  refine Met.ofW (cc := cX0_checkSource) (maxL := 6) (ret := none) (by decide) rfl ?_
  intro p e s m args below meth c s₁ B hml hv
  obtain ⟨rfl, hsz, hP, hK, hD0, hZ⟩ := hv
  have hx := B.exec
  have hb := B.bytes
  have hr := B.returns
  have hts := atoms_spec (ws := (wsOf yX0_checkSource cX0_checkSource 6 none)) B.pre
  have hown : s.vm.findClass RX0 = some m.cls := findClass_of_methodNamed B.named
  have hlocks := B.notSynchronized
  subst hsz
  have hD := hD0.self (sz := s.heap.size)
  generalize hAe : va_A (cW cB cI cJ cZ cS cO b cs) s.heap.size = A at hD hZ ⊢
  have hA : ∀ q : Nat, s.heap.size ≤ q → A q := fun q h => by rw [← hAe]; exact Or.inr h
  have hS : va_S A s.heap s.heap [] := va_S.rf
  have hl := lv_entry ([.ref (b + x0), .ref (b + x1), .int x2]) (n := 6) (Nat.le_of_ble_eq_true rfl)
  rw [lg_entry_eq]
  generalize (lg_sl ([.ref (b + x0), .ref (b + x1), .int x2]) ++ List.replicate (6 - (lg_sl ([.ref (b + x0), .ref (b + x1), .int x2])).length) Slot.unset).toArray = ls at hl ⊢
  have hl : lv_has ls 6 [(0, .ref (b + x0)), (1, .ref (b + x1)), (2, .int x2)] := hl
  have B_219 : ∀ (cs1 : CS) , c_X0_checkSource_b219 F T cs1 = some cs9 → ∀ (H : Heap) (locs : List Loc) (ls : Array Slot), va_P (dC, dI) vwCl (cW cB cI cJ cZ cS cO b cs1) H → va_D A (cW cB cI cJ cZ cS cO b cs1) → va_S A s.heap H locs → lv_has ls 6 [] → W p l e (headSpec (wsOf yX0_checkSource cX0_checkSource 6 none) ({ frames := n + 1 + 6, cells := 0, slots := 0, locals := 60 * (n + 1 + 6) } : Room)).room s m ([.ref (b + x0), .ref (b + x1), .int x2] : List Value).toArray below meth c H locs 0 0 (MQ below (va_Qv (fun (_ : Unit) => True) (fun _ t_ => va_P (dC, dI) vwCl (cW cB cI cJ cZ cS cO b cs9) t_.heap ∧ va_D A (cW cB cI cJ cZ cS cO b cs9)) A) ([.ref (b + x0), .ref (b + x1), .int x2] : List Value).toArray s 0 0 A) (F0 m 219 ls []) := by
    intro cs1  h H locs ls hP hD hS hl
    unfold c_X0_checkSource_b219 at h
    have e1 := Option.some.inj h
    rw [e1] at hP hD
    exact W.vret hx hb hr (fun t_ ht hW => ⟨⟨(), rfl, trivial, by rw [ht]; exact hP, hD⟩, hS.F ht⟩) hS.2.2 dX0_checkSource_219
  have B_191 : ∀ (cs1 : CS) (u0 : Nat) (u1 : Nat) (u2 : Int32) (u3 : Nat) (y0 : Int32) (y1 : Nat), c_X0_checkSource_b191 F T cs1 u0 u1 u2 u3 y0 y1 = some cs9 → ∀ (H : Heap) (locs : List Loc) (ls : Array Slot), va_P (dC, dI) vwCl (cW cB cI cJ cZ cS cO b cs1) H → va_D A (cW cB cI cJ cZ cS cO b cs1) → va_S A s.heap H locs → lv_has ls 6 [(0, .ref (b + u0)), (1, .ref (b + u1)), (2, .int u2), (3, .ref (b + u3))] → W p l e (headSpec (wsOf yX0_checkSource cX0_checkSource 6 none) ({ frames := n + 1 + 6, cells := 0, slots := 0, locals := 60 * (n + 1 + 6) } : Room)).room s m ([.ref (b + x0), .ref (b + x1), .int x2] : List Value).toArray below meth c H locs 0 0 (MQ below (va_Qv (fun (_ : Unit) => True) (fun _ t_ => va_P (dC, dI) vwCl (cW cB cI cJ cZ cS cO b cs9) t_.heap ∧ va_D A (cW cB cI cJ cZ cS cO b cs9)) A) ([.ref (b + x0), .ref (b + x1), .int x2] : List Value).toArray s 0 0 A) (F0 m 191 ls [.int y0, .ref (b + y1)]) := by
    intro cs1 u0 u1 u2 u3 y0 y1 h H locs ls hP hD hS hl
    unfold c_X0_checkSource_b191 at h
    replace h := ob h; obtain ⟨cs_1, hv_1, h⟩ := h
    refine fp_X0_180 hx hb hts hown hK hP hD hS hv_1 dX0_checkSource_191 (fun H locs hP hD hS => ?_)
    refine lv_aload_n hx hb dX0_checkSource_194 rfl (lv_at hl 0 rfl) ?_
    refine lv_aload_n hx hb dX0_checkSource_195 rfl (lv_at hl 1 rfl) ?_
    replace h := ob h; obtain ⟨cs_2, hv_2, h⟩ := h
    refine fp_X0_121 (v := (some u1)) hx hb hts hown hK hP hD hS hv_2 dX0_checkSource_196 (fun H locs hP hD hS => ?_)
    refine lv_aload_n hx hb dX0_checkSource_199 rfl (lv_at hl 0 rfl) ?_
    refine lv_iload_n hx hb dX0_checkSource_200 rfl (lv_at hl 2 rfl) ?_
    refine lv_iconst (v := 1) hx hb dX0_checkSource_201 (by decide) ?_
    refine lv_iadd hx hb dX0_checkSource_202 ?_
    replace h := ob h; obtain ⟨cs_3, hv_3, h⟩ := h
    refine fp_X0_125 hx hb hts hown hK hP hD hS hv_3 dX0_checkSource_203 (fun H locs hP hD hS => ?_)
    refine lv_aload_n hx hb dX0_checkSource_206 rfl (lv_at hl 0 rfl) ?_
    refine lv_null hx hb dX0_checkSource_207 ?_
    replace h := ob h; obtain ⟨cs_4, hv_4, h⟩ := h
    refine fp_X0_103 (v := none) hx hb hts hown hK hP hD hS hv_4 dX0_checkSource_208 (fun H locs hP hD hS => ?_)
    refine lv_aload_n hx hb dX0_checkSource_211 rfl (lv_at hl 0 rfl) ?_
    refine lv_aload_n hx hb dX0_checkSource_212 rfl (lv_at hl 3 rfl) ?_
    replace h := ob h; obtain ⟨v_5, hv_5, h⟩ := h
    refine fg_X0_188 hx hb hts hown hK hP hv_5 dX0_checkSource_213 ?_
    replace h := ob h; obtain ⟨w_7, hw_7, h⟩ := h
    replace h := ob h; obtain ⟨cs_6, hv_6, h⟩ := h
    refine ccV (As := [.int v_5]) hx hb hml hts hown hK hP hD hS hA hZ (X := 1) (by decide) rfl (ckE_some hw_7) (sc_X0_checkTruth l dC dI cB cI cJ cZ cS cO b K V fz F cs_4 u0 v_5 cs_6 hv_6) (cw_X0_X0_checkTruth hts (fr := 4) (by show 4 + 1 ≤ n + 1 + 6; omega) (by show 8 + (2 + 11) + 60 * (4) ≤ 60 * (n + 1 + 6); omega)) rfl hl.1 (Nat.le_of_ble_eq_true rfl) ⟨Nat.zero_le _, Nat.zero_le _⟩ dX0_checkSource_216 (fun H locs hP hD hS => ?_)
    exact B_219 cs_6 h _ _ _ hP hD hS (lv_sub hl [] rfl)
  have L_90 : ∀ (lf_90 : Nat), ∀ (cs1 : CS) (u0 : Nat) (u1 : Nat) (u2 : Int32) (u3 : Nat) (u4 : Int32), c_X0_checkSource_L90 F T lf_90 cs1 u0 u1 u2 u3 u4 = some cs9 → ∀ (H : Heap) (locs : List Loc) (ls : Array Slot), va_P (dC, dI) vwCl (cW cB cI cJ cZ cS cO b cs1) H → va_D A (cW cB cI cJ cZ cS cO b cs1) → va_S A s.heap H locs → lv_has ls 6 [(0, .ref (b + u0)), (1, .ref (b + u1)), (2, .int u2), (3, .ref (b + u3)), (4, .int u4)] → W p l e (headSpec (wsOf yX0_checkSource cX0_checkSource 6 none) ({ frames := n + 1 + 6, cells := 0, slots := 0, locals := 60 * (n + 1 + 6) } : Room)).room s m ([.ref (b + x0), .ref (b + x1), .int x2] : List Value).toArray below meth c H locs 0 0 (MQ below (va_Qv (fun (_ : Unit) => True) (fun _ t_ => va_P (dC, dI) vwCl (cW cB cI cJ cZ cS cO b cs9) t_.heap ∧ va_D A (cW cB cI cJ cZ cS cO b cs9)) A) ([.ref (b + x0), .ref (b + x1), .int x2] : List Value).toArray s 0 0 A) (F0 m 90 ls []) := by
    intro lf_90
    induction lf_90 with
    | zero => intro cs1 u0 u1 u2 u3 u4 h; cases (show (none : Option CS) = _ from h)
    | succ lf_90 ih_90 =>
      have B_135 : ∀ (cs1 : CS) (u0 : Nat) (u1 : Nat) (u2 : Int32) (u3 : Nat) (u4 : Int32), c_X0_checkSource_b135 F T (c_X0_checkSource_L90 F T lf_90) cs1 u0 u1 u2 u3 u4 = some cs9 → ∀ (H : Heap) (locs : List Loc) (ls : Array Slot), va_P (dC, dI) vwCl (cW cB cI cJ cZ cS cO b cs1) H → va_D A (cW cB cI cJ cZ cS cO b cs1) → va_S A s.heap H locs → lv_has ls 6 [(0, .ref (b + u0)), (1, .ref (b + u1)), (2, .int u2), (3, .ref (b + u3)), (4, .int u4)] → W p l e (headSpec (wsOf yX0_checkSource cX0_checkSource 6 none) ({ frames := n + 1 + 6, cells := 0, slots := 0, locals := 60 * (n + 1 + 6) } : Room)).room s m ([.ref (b + x0), .ref (b + x1), .int x2] : List Value).toArray below meth c H locs 0 0 (MQ below (va_Qv (fun (_ : Unit) => True) (fun _ t_ => va_P (dC, dI) vwCl (cW cB cI cJ cZ cS cO b cs9) t_.heap ∧ va_D A (cW cB cI cJ cZ cS cO b cs9)) A) ([.ref (b + x0), .ref (b + x1), .int x2] : List Value).toArray s 0 0 A) (F0 m 135 ls []) := by
        intro cs1 u0 u1 u2 u3 u4 h H locs ls hP hD hS hl
        unfold c_X0_checkSource_b135 at h
        refine lv_iinc (v := u4 + 1) (lv' := [(4, .int (u4 + 1)), (0, .ref (b + u0)), (1, .ref (b + u1)), (2, .int u2), (3, .ref (b + u3))]) hx hb dX0_checkSource_135 hl (k := 4) rfl rfl (by decide) rfl (fun ls hl => ?_)
        refine lv_goto (tgt := 90) hx hb dX0_checkSource_138 (by decide) ?_
        exact ih_90 cs1 u0 u1 u2 u3 (u4 + 1) h _ _ _ hP hD hS (lv_sub hl [1, 2, 3, 4, 0] rfl)
      intro cs1 u0 u1 u2 u3 u4 h H locs ls hP hD hS hl
      rw [c_X0_checkSource_L90] at h
      refine lv_iload hx hb dX0_checkSource_90 (lv_at hl 4 rfl) ?_
      refine lv_iload_n hx hb dX0_checkSource_92 rfl (lv_at hl 2 rfl) ?_
      refine lv_icmp_ge (tgt := 141) hx hb dX0_checkSource_93 (by decide) (fun c_8 => ?_) (fun c_8 => ?_)
      · skip
        replace h := (if_pos c_8).symm.trans h
        refine lv_iload_n hx hb dX0_checkSource_141 rfl (lv_at hl 2 rfl) ?_
        refine lv_if_le (tgt := 219) hx hb dX0_checkSource_142 (by decide) (fun c_9 => ?_) (fun c_9 => ?_)
        · skip
          replace h := (if_pos c_9).symm.trans h
          exact B_219 cs1 h _ _ _ hP hD hS (lv_sub hl [] rfl)
        · skip
          replace h := (if_neg c_9).symm.trans h
          refine lv_aload_n hx hb dX0_checkSource_145 rfl (lv_at hl 0 rfl) ?_
          refine lv_aload_n hx hb dX0_checkSource_146 rfl (lv_at hl 1 rfl) ?_
          replace h := ob h; obtain ⟨v_10, hv_10, h⟩ := h
          refine fg_X0_60 hx hb hts hown hK hP hv_10 dX0_checkSource_147 ?_
          refine lv_aload_n hx hb dX0_checkSource_150 rfl (lv_at hl 3 rfl) ?_
          replace h := ob h; obtain ⟨v_11, hv_11, h⟩ := h
          refine fg_X0_177 hx hb hts hown hK hP hv_11 dX0_checkSource_151 ?_
          replace h := ob h; obtain ⟨w_13, hw_13, h⟩ := h
          replace h := ob h; obtain ⟨cs_12, hv_12, h⟩ := h
          refine ccV (As := [.int v_10, .int v_11]) hx hb hml hts hown hK hP hD hS hA hZ (X := 1) (by decide) rfl (ckE_some hw_13) (sc_X0_checkBound l dC dI cB cI cJ cZ cS cO b K V fz F cs1 u0 v_10 v_11 cs_12 hv_12) (cw_X0_X0_checkBound hts (fr := 1) (by show 1 + 1 ≤ n + 1 + 6; omega) (by show 8 + (3 + 11) + 60 * (1) ≤ 60 * (n + 1 + 6); omega)) rfl hl.1 (Nat.le_of_ble_eq_true rfl) ⟨Nat.zero_le _, Nat.zero_le _⟩ dX0_checkSource_154 (fun H locs hP hD hS => ?_)
          refine lv_aload_n hx hb dX0_checkSource_157 rfl (lv_at hl 1 rfl) ?_
          replace h := ob h; obtain ⟨v_14, hv_14, h⟩ := h
          refine fg_X0_113 hx hb hts hown hK hP hv_14 dX0_checkSource_158 ?_
          refine lv_iload_n hx hb dX0_checkSource_161 rfl (lv_at hl 2 rfl) ?_
          refine lv_iconst (v := 1) hx hb dX0_checkSource_162 (by decide) ?_
          refine lv_isub hx hb dX0_checkSource_163 ?_
          replace h := ob h; obtain ⟨v_15, hv_15, h⟩ := h
          refine aldQ hx hb hK hP rfl hv_15 dX0_checkSource_164 ?_
          refine lv_astoreO (lv' := [(4, rv b v_15), (0, .ref (b + u0)), (1, .ref (b + u1)), (2, .int u2), (3, .ref (b + u3))]) hx hb dX0_checkSource_165 hl (by decide) rfl (fun ls hl => ?_)
          refine lv_aload_n hx hb dX0_checkSource_167 rfl (lv_at hl 4 rfl) ?_
          refine lv_aloadO hx hb dX0_checkSource_168 (lv_at hl 0 rfl) ?_
          cases v_15 with
          | none =>
            replace h := oc_n.symm.trans h
            refine lv_ifnonnullN hx hb dX0_checkSource_170 ?_
            refine lv_iconst (v := 0) hx hb dX0_checkSource_173 (by decide) ?_
            refine lv_goto (tgt := 191) hx hb dX0_checkSource_174 (by decide) ?_
            exact B_191 cs_12 u0 u1 u2 u3 0 u3 h _ _ _ hP hD hS (lv_sub hl [1, 2, 3, 4] rfl)
          | some i_16 =>
            replace h := oc_s.symm.trans h
            refine lv_ifnonnull (tgt := 177) hx hb dX0_checkSource_170 (by decide) ?_
            refine lv_aload hx hb dX0_checkSource_177 (lv_at hl 0 rfl) ?_
            replace h := ob h; obtain ⟨v_17, hv_17, h⟩ := h
            refine fg_X0_180 hx hb hts hown hK hP hv_17 dX0_checkSource_179 ?_
            refine lv_aload hx hb dX0_checkSource_182 (lv_at hl 0 rfl) ?_
            replace h := ob h; obtain ⟨v_18, hv_18, h⟩ := h
            refine fg_X0_183 hx hb hts hown hK hP hv_18 dX0_checkSource_184 ?_
            replace h := ob h; obtain ⟨i_19, hi_19, h⟩ := h
            subst hi_19
            replace h := ob h; obtain ⟨v_20, hv_20, h⟩ := h
            refine fg_X0_186 hx hb hts hown hK hP hv_20 dX0_checkSource_187 ?_
            refine lv_iadd hx hb dX0_checkSource_190 ?_
            exact B_191 cs_12 u0 u1 u2 u3 (v_17 + v_20) u3 h _ _ _ hP hD hS (lv_sub hl [1, 2, 3, 4] rfl)
      · skip
        replace h := (if_neg c_8).symm.trans h
        refine lv_aload_n hx hb dX0_checkSource_96 rfl (lv_at hl 1 rfl) ?_
        replace h := ob h; obtain ⟨v_21, hv_21, h⟩ := h
        refine fg_X0_113 hx hb hts hown hK hP hv_21 dX0_checkSource_97 ?_
        refine lv_iload hx hb dX0_checkSource_100 (lv_at hl 4 rfl) ?_
        replace h := ob h; obtain ⟨v_22, hv_22, h⟩ := h
        refine aldQ hx hb hK hP rfl hv_22 dX0_checkSource_102 ?_
        refine lv_astoreO (lv' := [(5, rv b v_22), (0, .ref (b + u0)), (1, .ref (b + u1)), (2, .int u2), (3, .ref (b + u3)), (4, .int u4)]) hx hb dX0_checkSource_103 hl (by decide) rfl (fun ls hl => ?_)
        refine lv_aloadO hx hb dX0_checkSource_105 (lv_at hl 0 rfl) ?_
        cases v_22 with
        | none =>
          replace h := oc_n.symm.trans h
          refine lv_ifnullN (tgt := 135) hx hb dX0_checkSource_107 (by decide) ?_
          exact B_135 cs1 u0 u1 u2 u3 u4 h _ _ _ hP hD hS (lv_sub hl [1, 2, 3, 4, 5] rfl)
        | some i_23 =>
          replace h := oc_s.symm.trans h
          refine lv_ifnull hx hb dX0_checkSource_107 ?_
          refine lv_aload hx hb dX0_checkSource_110 (lv_at hl 0 rfl) ?_
          replace h := ob h; obtain ⟨v_24, hv_24, h⟩ := h
          refine fg_X0_171 hx hb hts hown hK hP hv_24 dX0_checkSource_112 ?_
          refine lv_aload_n hx hb dX0_checkSource_115 rfl (lv_at hl 4 rfl) ?_
          replace h := ob h; obtain ⟨v_25, hv_25, h⟩ := h
          refine fg_X0_171 hx hb hts hown hK hP hv_25 dX0_checkSource_116 ?_
          refine W.lcmp hx hb dX0_checkSource_119 ?_
          refine lv_if_ne (tgt := 135) hx hb dX0_checkSource_120 (by decide) (fun c_26 => ?_) (fun c_26 => ?_)
          · skip
            have c_26 : ¬ (v_24 = v_25) := fun h9 => c_26 ((lg_cmp_eq _ _).mpr h9)
            replace h := (if_neg c_26).symm.trans h
            exact B_135 cs1 u0 u1 u2 u3 u4 h _ _ _ hP hD hS (lv_sub hl [1, 2, 3, 4, 5] rfl)
          · skip
            have c_26 : v_24 = v_25 := (lg_cmp_eq _ _).mp c_26
            replace h := (if_pos c_26).symm.trans h
            refine lv_aload_n hx hb dX0_checkSource_123 rfl (lv_at hl 1 rfl) ?_
            replace h := ob h; obtain ⟨v_27, hv_27, h⟩ := h
            refine fg_X0_9 hx hb hts hown hK hP hv_27 dX0_checkSource_124 ?_
            refine lv_iconst (v := 2) hx hb dX0_checkSource_127 (by decide) ?_
            refine lv_aload_n hx hb dX0_checkSource_128 rfl (lv_at hl 4 rfl) ?_
            replace h := ob h; obtain ⟨v_28, hv_28, h⟩ := h
            refine fg_X0_174 hx hb hts hown hK hP hv_28 dX0_checkSource_129 ?_
            replace h := ob h; obtain ⟨i_30, hi_30, h⟩ := h
            subst hi_30
            replace h := ob h; obtain ⟨w_31, hw_31, h⟩ := h
            replace h := ob h; obtain ⟨cs_29, hv_29, h⟩ := h
            refine ccV (As := [.int 2, .int v_28]) hx hb hml hts hown hK hP hD hS hA hZ (X := 10) (by decide) rfl (ckE_some hw_31) (sc_X9_refuse l dC dI cB cI cJ cZ cS cO b K V fz F cs1 i_30 2 v_28 cs_29 hv_29) (cw_X0_X9_refuse hts (fr := 0) (by show 0 + 1 ≤ n + 1 + 6; omega) (by show 8 + (3 + 11) + 60 * (0) ≤ 60 * (n + 1 + 6); omega)) rfl hl.1 (Nat.le_of_ble_eq_true rfl) ⟨Nat.zero_le _, Nat.zero_le _⟩ dX0_checkSource_132 (fun H locs hP hD hS => ?_)
            exact B_135 cs_29 u0 u1 u2 u3 u4 h _ _ _ hP hD hS (lv_sub hl [1, 2, 3, 4, 5] rfl)
  have B_87 : ∀ (cs1 : CS) (u0 : Nat) (u1 : Nat) (u2 : Int32) (u3 : Nat), c_X0_checkSource_b87 F T cs1 u0 u1 u2 u3 = some cs9 → ∀ (H : Heap) (locs : List Loc) (ls : Array Slot), va_P (dC, dI) vwCl (cW cB cI cJ cZ cS cO b cs1) H → va_D A (cW cB cI cJ cZ cS cO b cs1) → va_S A s.heap H locs → lv_has ls 6 [(0, .ref (b + u0)), (1, .ref (b + u1)), (2, .int u2), (3, .ref (b + u3))] → W p l e (headSpec (wsOf yX0_checkSource cX0_checkSource 6 none) ({ frames := n + 1 + 6, cells := 0, slots := 0, locals := 60 * (n + 1 + 6) } : Room)).room s m ([.ref (b + x0), .ref (b + x1), .int x2] : List Value).toArray below meth c H locs 0 0 (MQ below (va_Qv (fun (_ : Unit) => True) (fun _ t_ => va_P (dC, dI) vwCl (cW cB cI cJ cZ cS cO b cs9) t_.heap ∧ va_D A (cW cB cI cJ cZ cS cO b cs9)) A) ([.ref (b + x0), .ref (b + x1), .int x2] : List Value).toArray s 0 0 A) (F0 m 87 ls []) := by
    intro cs1 u0 u1 u2 u3 h H locs ls hP hD hS hl
    unfold c_X0_checkSource_b87 at h
    refine lv_iconst (v := 0) hx hb dX0_checkSource_87 (by decide) ?_
    refine lv_istore (lv' := [(4, .int 0), (0, .ref (b + u0)), (1, .ref (b + u1)), (2, .int u2), (3, .ref (b + u3))]) hx hb dX0_checkSource_88 hl (by decide) rfl (fun ls hl => ?_)
    exact L_90 F cs1 u0 u1 u2 u3 0 h _ _ _ hP hD hS (lv_sub hl [1, 2, 3, 4, 0] rfl)
  have B_51 : ∀ (cs1 : CS) (u0 : Nat) (u1 : Nat) (u2 : Int32) (u3 : Nat) (y0 : Int32) (y1 : Nat), c_X0_checkSource_b51 F T cs1 u0 u1 u2 u3 y0 y1 = some cs9 → ∀ (H : Heap) (locs : List Loc) (ls : Array Slot), va_P (dC, dI) vwCl (cW cB cI cJ cZ cS cO b cs1) H → va_D A (cW cB cI cJ cZ cS cO b cs1) → va_S A s.heap H locs → lv_has ls 6 [(0, .ref (b + u0)), (1, .ref (b + u1)), (2, .int u2), (3, .ref (b + u3))] → W p l e (headSpec (wsOf yX0_checkSource cX0_checkSource 6 none) ({ frames := n + 1 + 6, cells := 0, slots := 0, locals := 60 * (n + 1 + 6) } : Room)).room s m ([.ref (b + x0), .ref (b + x1), .int x2] : List Value).toArray below meth c H locs 0 0 (MQ below (va_Qv (fun (_ : Unit) => True) (fun _ t_ => va_P (dC, dI) vwCl (cW cB cI cJ cZ cS cO b cs9) t_.heap ∧ va_D A (cW cB cI cJ cZ cS cO b cs9)) A) ([.ref (b + x0), .ref (b + x1), .int x2] : List Value).toArray s 0 0 A) (F0 m 51 ls [.int y0, .ref (b + y1)]) := by
    intro cs1 u0 u1 u2 u3 y0 y1 h H locs ls hP hD hS hl
    unfold c_X0_checkSource_b51 at h
    replace h := ob h; obtain ⟨w_33, hw_33, h⟩ := h
    replace h := ob h; obtain ⟨cs_32, hv_32, h⟩ := h
    refine fp_X0_60 hx hb hts hown hK hP hD hS (ckZ_some hw_33) hv_32 dX0_checkSource_51 (fun H locs hP hD hS => ?_)
    refine lv_goto (tgt := 87) hx hb dX0_checkSource_54 (by decide) ?_
    exact B_87 cs_32 u0 u1 u2 u3 h _ _ _ hP hD hS (lv_sub hl [0, 1, 2, 3] rfl)
  have B_46 : ∀ (cs1 : CS) (u0 : Nat) (u1 : Nat) (u2 : Int32) (u3 : Nat) (y0 : Nat), c_X0_checkSource_b46 F T cs1 u0 u1 u2 u3 y0 = some cs9 → ∀ (H : Heap) (locs : List Loc) (ls : Array Slot), va_P (dC, dI) vwCl (cW cB cI cJ cZ cS cO b cs1) H → va_D A (cW cB cI cJ cZ cS cO b cs1) → va_S A s.heap H locs → lv_has ls 6 [(0, .ref (b + u0)), (1, .ref (b + u1)), (2, .int u2), (3, .ref (b + u3))] → W p l e (headSpec (wsOf yX0_checkSource cX0_checkSource 6 none) ({ frames := n + 1 + 6, cells := 0, slots := 0, locals := 60 * (n + 1 + 6) } : Room)).room s m ([.ref (b + x0), .ref (b + x1), .int x2] : List Value).toArray below meth c H locs 0 0 (MQ below (va_Qv (fun (_ : Unit) => True) (fun _ t_ => va_P (dC, dI) vwCl (cW cB cI cJ cZ cS cO b cs9) t_.heap ∧ va_D A (cW cB cI cJ cZ cS cO b cs9)) A) ([.ref (b + x0), .ref (b + x1), .int x2] : List Value).toArray s 0 0 A) (F0 m 46 ls [.ref (b + y0)]) := by
    intro cs1 u0 u1 u2 u3 y0 h H locs ls hP hD hS hl
    unfold c_X0_checkSource_b46 at h
    refine lv_iconst (v := 1) hx hb dX0_checkSource_46 (by decide) ?_
    refine lv_goto (tgt := 51) hx hb dX0_checkSource_47 (by decide) ?_
    exact B_51 cs1 u0 u1 u2 u3 1 y0 h _ _ _ hP hD hS (lv_sub hl [0, 1, 2, 3] rfl)
  have B_84 : ∀ (cs1 : CS) (u0 : Nat) (u1 : Nat) (u2 : Int32) (u3 : Nat) (y0 : Int32) (y1 : Nat), c_X0_checkSource_b84 F T cs1 u0 u1 u2 u3 y0 y1 = some cs9 → ∀ (H : Heap) (locs : List Loc) (ls : Array Slot), va_P (dC, dI) vwCl (cW cB cI cJ cZ cS cO b cs1) H → va_D A (cW cB cI cJ cZ cS cO b cs1) → va_S A s.heap H locs → lv_has ls 6 [(0, .ref (b + u0)), (1, .ref (b + u1)), (2, .int u2), (3, .ref (b + u3))] → W p l e (headSpec (wsOf yX0_checkSource cX0_checkSource 6 none) ({ frames := n + 1 + 6, cells := 0, slots := 0, locals := 60 * (n + 1 + 6) } : Room)).room s m ([.ref (b + x0), .ref (b + x1), .int x2] : List Value).toArray below meth c H locs 0 0 (MQ below (va_Qv (fun (_ : Unit) => True) (fun _ t_ => va_P (dC, dI) vwCl (cW cB cI cJ cZ cS cO b cs9) t_.heap ∧ va_D A (cW cB cI cJ cZ cS cO b cs9)) A) ([.ref (b + x0), .ref (b + x1), .int x2] : List Value).toArray s 0 0 A) (F0 m 84 ls [.int y0, .ref (b + y1)]) := by
    intro cs1 u0 u1 u2 u3 y0 y1 h H locs ls hP hD hS hl
    unfold c_X0_checkSource_b84 at h
    replace h := ob h; obtain ⟨w_35, hw_35, h⟩ := h
    replace h := ob h; obtain ⟨cs_34, hv_34, h⟩ := h
    refine fp_X0_60 hx hb hts hown hK hP hD hS (ckZ_some hw_35) hv_34 dX0_checkSource_84 (fun H locs hP hD hS => ?_)
    exact B_87 cs_34 u0 u1 u2 u3 h _ _ _ hP hD hS (lv_sub hl [0, 1, 2, 3] rfl)
  have B_79 : ∀ (cs1 : CS) (u0 : Nat) (u1 : Nat) (u2 : Int32) (u3 : Nat) (y0 : Nat), c_X0_checkSource_b79 F T cs1 u0 u1 u2 u3 y0 = some cs9 → ∀ (H : Heap) (locs : List Loc) (ls : Array Slot), va_P (dC, dI) vwCl (cW cB cI cJ cZ cS cO b cs1) H → va_D A (cW cB cI cJ cZ cS cO b cs1) → va_S A s.heap H locs → lv_has ls 6 [(0, .ref (b + u0)), (1, .ref (b + u1)), (2, .int u2), (3, .ref (b + u3))] → W p l e (headSpec (wsOf yX0_checkSource cX0_checkSource 6 none) ({ frames := n + 1 + 6, cells := 0, slots := 0, locals := 60 * (n + 1 + 6) } : Room)).room s m ([.ref (b + x0), .ref (b + x1), .int x2] : List Value).toArray below meth c H locs 0 0 (MQ below (va_Qv (fun (_ : Unit) => True) (fun _ t_ => va_P (dC, dI) vwCl (cW cB cI cJ cZ cS cO b cs9) t_.heap ∧ va_D A (cW cB cI cJ cZ cS cO b cs9)) A) ([.ref (b + x0), .ref (b + x1), .int x2] : List Value).toArray s 0 0 A) (F0 m 79 ls [.ref (b + y0)]) := by
    intro cs1 u0 u1 u2 u3 y0 h H locs ls hP hD hS hl
    unfold c_X0_checkSource_b79 at h
    refine lv_iconst (v := 1) hx hb dX0_checkSource_79 (by decide) ?_
    refine lv_goto (tgt := 84) hx hb dX0_checkSource_80 (by decide) ?_
    exact B_84 cs1 u0 u1 u2 u3 1 y0 h _ _ _ hP hD hS (lv_sub hl [0, 1, 2, 3] rfl)
  have h := hf
  unfold cb_X0_checkSource at h
  refine lv_aload_n hx hb dX0_checkSource_0 rfl (lv_at hl 1 rfl) ?_
  replace h := ob h; obtain ⟨v_36, hv_36, h⟩ := h
  refine fg_X0_113 hx hb hts hown hK hP hv_36 dX0_checkSource_1 ?_
  refine lv_iload_n hx hb dX0_checkSource_4 rfl (lv_at hl 2 rfl) ?_
  replace h := ob h; obtain ⟨v_37, hv_37, h⟩ := h
  refine aldQ hx hb hK hP rfl hv_37 dX0_checkSource_5 ?_
  refine lv_astore_nO (lv' := [(3, rv b v_37), (0, .ref (b + x0)), (1, .ref (b + x1)), (2, .int x2)]) hx hb dX0_checkSource_6 rfl hl (by decide) rfl (fun ls hl => ?_)
  refine lv_aload_nO hx hb dX0_checkSource_7 rfl (lv_at hl 0 rfl) ?_
  cases v_37 with
  | none =>
    replace h := oc_n.symm.trans h
    refine lv_ifnonnullN hx hb dX0_checkSource_8 ?_
    have e1 := Option.some.inj h
    rw [e1] at hP hD
    exact W.vret hx hb hr (fun t_ ht hW => ⟨⟨(), rfl, trivial, by rw [ht]; exact hP, hD⟩, hS.F ht⟩) hS.2.2 dX0_checkSource_11
  | some i_38 =>
    replace h := oc_s.symm.trans h
    refine lv_ifnonnull (tgt := 12) hx hb dX0_checkSource_8 (by decide) ?_
    refine lv_aload_n hx hb dX0_checkSource_12 rfl (lv_at hl 0 rfl) ?_
    replace h := ob h; obtain ⟨v_39, hv_39, h⟩ := h
    refine fg_X0_153 hx hb hts hown hK hP hv_39 dX0_checkSource_13 ?_
    cases v_39 with
    | none =>
      replace h := oc_n.symm.trans h
      refine lv_ifnullN (tgt := 57) hx hb dX0_checkSource_16 (by decide) ?_
      refine lv_aload_n hx hb dX0_checkSource_57 rfl (lv_at hl 1 rfl) ?_
      refine lv_aload_n hx hb dX0_checkSource_58 rfl (lv_at hl 0 rfl) ?_
      replace h := ob h; obtain ⟨w_42, hw_42, h⟩ := h
      replace h := ob h; obtain ⟨cs_41, hv_41, h⟩ := h
      refine ccV (As := [.ref (b + i_38)]) hx hb hml hts hown hK hP hD hS hA hZ (X := 1) (by decide) rfl (ckE_some hw_42) (sc_X0_checkLeaf l dC dI cB cI cJ cZ cS cO b K V fz F cs x0 i_38 cs_41 hv_41) (cw_X0_X0_checkLeaf hts (fr := 2) (by show 2 + 1 ≤ n + 1 + 6; omega) (by show 8 + (3 + 11) + 60 * (2) ≤ 60 * (n + 1 + 6); omega)) rfl hl.1 (Nat.le_of_ble_eq_true rfl) ⟨Nat.zero_le _, Nat.zero_le _⟩ dX0_checkSource_59 (fun H locs hP hD hS => ?_)
      refine lv_aload_n hx hb dX0_checkSource_62 rfl (lv_at hl 2 rfl) ?_
      refine lv_aload_n hx hb dX0_checkSource_63 rfl (lv_at hl 2 rfl) ?_
      replace h := ob h; obtain ⟨v_43, hv_43, h⟩ := h
      refine fg_X0_60 hx hb hts hown hK hP hv_43 dX0_checkSource_64 ?_
      refine lv_if_ne (tgt := 79) hx hb dX0_checkSource_67 (by decide) (fun c_44 => ?_) (fun c_44 => ?_)
      · skip
        replace h := (if_neg c_44).symm.trans h
        exact B_79 cs_41 x0 x1 x2 i_38 x1 h _ _ _ hP hD hS (lv_sub hl [1, 2, 3, 0] rfl)
      · skip
        replace h := (if_pos c_44).symm.trans h
        refine lv_aload_n hx hb dX0_checkSource_70 rfl (lv_at hl 0 rfl) ?_
        replace h := ob h; obtain ⟨v_45, hv_45, h⟩ := h
        refine fg_X0_167 hx hb hts hown hK hP hv_45 dX0_checkSource_71 ?_
        refine lv_lconst (v := 0) hx hb dX0_checkSource_74 (by decide) ?_
        refine W.lcmp hx hb dX0_checkSource_75 ?_
        refine lv_if_ge (tgt := 83) hx hb dX0_checkSource_76 (by decide) (fun c_46 => ?_) (fun c_46 => ?_)
        · skip
          have c_46 : 0 ≤ v_45 := (lg_cmp_ge _ _).mp c_46
          replace h := (if_pos c_46).symm.trans h
          refine lv_iconst (v := 0) hx hb dX0_checkSource_83 (by decide) ?_
          exact B_84 cs_41 x0 x1 x2 i_38 0 x1 h _ _ _ hP hD hS (lv_sub hl [1, 2, 3, 0] rfl)
        · skip
          have c_46 : ¬ (0 ≤ v_45) := fun h9 => c_46 ((lg_cmp_ge _ _).mpr h9)
          replace h := (if_neg c_46).symm.trans h
          exact B_79 cs_41 x0 x1 x2 i_38 x1 h _ _ _ hP hD hS (lv_sub hl [1, 2, 3, 0] rfl)
    | some i_40 =>
      replace h := oc_s.symm.trans h
      refine lv_ifnull hx hb dX0_checkSource_16 ?_
      refine lv_aload_n hx hb dX0_checkSource_19 rfl (lv_at hl 1 rfl) ?_
      refine lv_aload_n hx hb dX0_checkSource_20 rfl (lv_at hl 0 rfl) ?_
      refine lv_aload_n hx hb dX0_checkSource_21 rfl (lv_at hl 0 rfl) ?_
      replace h := ob h; obtain ⟨v_47, hv_47, h⟩ := h
      refine fg_X0_153 hx hb hts hown hK hP hv_47 dX0_checkSource_22 ?_
      replace h := ob h; obtain ⟨i_48, hi_48, h⟩ := h
      subst hi_48
      replace h := ob h; obtain ⟨w_50, hw_50, h⟩ := h
      replace h := ob h; obtain ⟨cs_49, hv_49, h⟩ := h
      refine ccV (As := [.ref (b + i_38), .ref (b + i_48)]) hx hb hml hts hown hK hP hD hS hA hZ (X := 1) (by decide) rfl (ckE_some hw_50) (hT_X0_checkInner cs x0 i_38 i_48 cs_49 hv_49) (cw_X0_X0_checkInner hts (fr := n + 6) (by show n + 6 + 1 ≤ n + 1 + 6; omega) (by show 8 + (5 + 11) + 60 * (n + 6) ≤ 60 * (n + 1 + 6); omega)) rfl hl.1 (Nat.le_of_ble_eq_true rfl) ⟨Nat.zero_le _, Nat.zero_le _⟩ dX0_checkSource_25 (fun H locs hP hD hS => ?_)
      refine lv_aload_n hx hb dX0_checkSource_28 rfl (lv_at hl 2 rfl) ?_
      refine lv_aload_n hx hb dX0_checkSource_29 rfl (lv_at hl 2 rfl) ?_
      replace h := ob h; obtain ⟨v_51, hv_51, h⟩ := h
      refine fg_X0_60 hx hb hts hown hK hP hv_51 dX0_checkSource_30 ?_
      refine lv_if_ne (tgt := 46) hx hb dX0_checkSource_33 (by decide) (fun c_52 => ?_) (fun c_52 => ?_)
      · skip
        replace h := (if_neg c_52).symm.trans h
        exact B_46 cs_49 x0 x1 x2 i_38 x1 h _ _ _ hP hD hS (lv_sub hl [1, 2, 3, 0] rfl)
      · skip
        replace h := (if_pos c_52).symm.trans h
        refine lv_aload_n hx hb dX0_checkSource_36 rfl (lv_at hl 0 rfl) ?_
        replace h := ob h; obtain ⟨v_53, hv_53, h⟩ := h
        refine fg_X0_153 hx hb hts hown hK hP hv_53 dX0_checkSource_37 ?_
        replace h := ob h; obtain ⟨i_54, hi_54, h⟩ := h
        subst hi_54
        replace h := ob h; obtain ⟨v_55, hv_55, h⟩ := h
        refine fg_X0_56 hx hb hts hown hK hP hv_55 dX0_checkSource_40 ?_
        refine lv_if_eq (tgt := 50) hx hb dX0_checkSource_43 (by decide) (fun c_56 => ?_) (fun c_56 => ?_)
        · skip
          replace h := (if_pos c_56).symm.trans h
          refine lv_iconst (v := 0) hx hb dX0_checkSource_50 (by decide) ?_
          exact B_51 cs_49 x0 x1 x2 i_38 0 x1 h _ _ _ hP hD hS (lv_sub hl [1, 2, 3, 0] rfl)
        · skip
          replace h := (if_neg c_56).symm.trans h
          exact B_46 cs_49 x0 x1 x2 i_38 x1 h _ _ _ hP hD hS (lv_sub hl [1, 2, 3, 0] rfl)
set_option maxHeartbeats 4000000 in
set_option maxRecDepth 100000 in
theorem sbc_X0_checkInner (l : Launch) (dC : Nat → ClassId) (dI : Nat → Nat → Nat) (cB cI cJ cZ cS cO : ClassId) (b : Nat) (K V : Nat → Nat) (fz : Value) (F : Nat) (n : Nat) (T : TC_X0_checkQuery) (hT_X0_checkQuery : ∀ (cs : CS) (x0 : Nat) (x1 : Nat) (cs9 : CS), T.1 cs x0 x1 = some cs9 → ocV l dC dI cB cI cJ cZ cS cO b K V fz yX0_checkQuery (wsOf yX0_checkQuery cX0_checkQuery 4 none) (n + 6) [.ref (b + x0), .ref (b + x1)] cs cs9) (hT_X0_checkSelect : ∀ (cs : CS) (x0 : Nat) (x1 : Nat) (cs9 : CS), T.2.1 cs x0 x1 = some cs9 → ocV l dC dI cB cI cJ cZ cS cO b K V fz yX0_checkSelect (wsOf yX0_checkSelect cX0_checkSelect 3 none) (n + 6) [.ref (b + x0), .ref (b + x1)] cs cs9) (hT_X0_checkSource : ∀ (cs : CS) (x0 : Nat) (x1 : Nat) (x2 : Int32) (cs9 : CS), T.2.2.1 cs x0 x1 x2 = some cs9 → ocV l dC dI cB cI cJ cZ cS cO b K V fz yX0_checkSource (wsOf yX0_checkSource cX0_checkSource 6 none) (n + 6) [.ref (b + x0), .ref (b + x1), .int x2] cs cs9) (hT_X0_checkInner : ∀ (cs : CS) (x0 : Nat) (x1 : Nat) (x2 : Nat) (cs9 : CS), T.2.2.2 cs x0 x1 x2 = some cs9 → ocV l dC dI cB cI cJ cZ cS cO b K V fz yX0_checkInner (wsOf yX0_checkInner cX0_checkInner 5 none) (n + 6) [.ref (b + x0), .ref (b + x1), .ref (b + x2)] cs cs9) (cs : CS) (x0 : Nat) (x1 : Nat) (x2 : Nat) (cs9 : CS) (hf : cb_X0_checkInner F T cs x0 x1 x2 = some cs9) : ocV l dC dI cB cI cJ cZ cS cO b K V fz yX0_checkInner (wsOf yX0_checkInner cX0_checkInner 5 none) (n + 1 + 6) [.ref (b + x0), .ref (b + x1), .ref (b + x2)] cs cs9 := by
  intro sz
  refine Met.ofW (cc := cX0_checkInner) (maxL := 5) (ret := none) (by decide) rfl ?_
  intro p e s m args below meth c s₁ B hml hv
  obtain ⟨rfl, hsz, hP, hK, hD0, hZ⟩ := hv
  have hx := B.exec
  have hb := B.bytes
  have hr := B.returns
  have hts := atoms_spec (ws := (wsOf yX0_checkInner cX0_checkInner 5 none)) B.pre
  have hown : s.vm.findClass RX0 = some m.cls := findClass_of_methodNamed B.named
  have hlocks := B.notSynchronized
  subst hsz
  have hD := hD0.self (sz := s.heap.size)
  generalize hAe : va_A (cW cB cI cJ cZ cS cO b cs) s.heap.size = A at hD hZ ⊢
  have hA : ∀ q : Nat, s.heap.size ≤ q → A q := fun q h => by rw [← hAe]; exact Or.inr h
  have hS : va_S A s.heap s.heap [] := va_S.rf
  have hl := lv_entry ([.ref (b + x0), .ref (b + x1), .ref (b + x2)]) (n := 5) (Nat.le_of_ble_eq_true rfl)
  rw [lg_entry_eq]
  generalize (lg_sl ([.ref (b + x0), .ref (b + x1), .ref (b + x2)]) ++ List.replicate (5 - (lg_sl ([.ref (b + x0), .ref (b + x1), .ref (b + x2)])).length) Slot.unset).toArray = ls at hl ⊢
  have hl : lv_has ls 5 [(0, .ref (b + x0)), (1, .ref (b + x1)), (2, .ref (b + x2))] := hl
  have B_87 : ∀ (cs1 : CS) , c_X0_checkInner_b87 F T cs1 = some cs9 → ∀ (H : Heap) (locs : List Loc) (ls : Array Slot), va_P (dC, dI) vwCl (cW cB cI cJ cZ cS cO b cs1) H → va_D A (cW cB cI cJ cZ cS cO b cs1) → va_S A s.heap H locs → lv_has ls 5 [] → W p l e (headSpec (wsOf yX0_checkInner cX0_checkInner 5 none) ({ frames := n + 1 + 6, cells := 0, slots := 0, locals := 60 * (n + 1 + 6) } : Room)).room s m ([.ref (b + x0), .ref (b + x1), .ref (b + x2)] : List Value).toArray below meth c H locs 0 0 (MQ below (va_Qv (fun (_ : Unit) => True) (fun _ t_ => va_P (dC, dI) vwCl (cW cB cI cJ cZ cS cO b cs9) t_.heap ∧ va_D A (cW cB cI cJ cZ cS cO b cs9)) A) ([.ref (b + x0), .ref (b + x1), .ref (b + x2)] : List Value).toArray s 0 0 A) (F0 m 87 ls []) := by
    intro cs1  h H locs ls hP hD hS hl
    unfold c_X0_checkInner_b87 at h
    have e1 := Option.some.inj h
    rw [e1] at hP hD
    exact W.vret hx hb hr (fun t_ ht hW => ⟨⟨(), rfl, trivial, by rw [ht]; exact hP, hD⟩, hS.F ht⟩) hS.2.2 dX0_checkInner_87
  have L_40 : ∀ (lf_40 : Nat), ∀ (cs1 : CS) (u1 : Nat) (u3 : Nat) (u4 : Int32), c_X0_checkInner_L40 F T lf_40 cs1 u1 u3 u4 = some cs9 → ∀ (H : Heap) (locs : List Loc) (ls : Array Slot), va_P (dC, dI) vwCl (cW cB cI cJ cZ cS cO b cs1) H → va_D A (cW cB cI cJ cZ cS cO b cs1) → va_S A s.heap H locs → lv_has ls 5 [(1, .ref (b + u1)), (3, .ref (b + u3)), (4, .int u4)] → W p l e (headSpec (wsOf yX0_checkInner cX0_checkInner 5 none) ({ frames := n + 1 + 6, cells := 0, slots := 0, locals := 60 * (n + 1 + 6) } : Room)).room s m ([.ref (b + x0), .ref (b + x1), .ref (b + x2)] : List Value).toArray below meth c H locs 0 0 (MQ below (va_Qv (fun (_ : Unit) => True) (fun _ t_ => va_P (dC, dI) vwCl (cW cB cI cJ cZ cS cO b cs9) t_.heap ∧ va_D A (cW cB cI cJ cZ cS cO b cs9)) A) ([.ref (b + x0), .ref (b + x1), .ref (b + x2)] : List Value).toArray s 0 0 A) (F0 m 40 ls []) := by
    intro lf_40
    induction lf_40 with
    | zero => intro cs1 u1 u3 u4 h; cases (show (none : Option CS) = _ from h)
    | succ lf_40 ih_40 =>
      intro cs1 u1 u3 u4 h H locs ls hP hD hS hl
      rw [c_X0_checkInner_L40] at h
      refine lv_iload hx hb dX0_checkInner_40 (lv_at hl 2 rfl) ?_
      refine lv_aload_n hx hb dX0_checkInner_42 rfl (lv_at hl 1 rfl) ?_
      replace h := ob h; obtain ⟨v_1, hv_1, h⟩ := h
      refine fg_X0_186 hx hb hts hown hK hP hv_1 dX0_checkInner_43 ?_
      refine lv_icmp_ge (tgt := 87) hx hb dX0_checkInner_46 (by decide) (fun c_2 => ?_) (fun c_2 => ?_)
      · skip
        replace h := (if_pos c_2).symm.trans h
        exact B_87 cs1 h _ _ _ hP hD hS (lv_sub hl [] rfl)
      · skip
        replace h := (if_neg c_2).symm.trans h
        refine lv_aload_n hx hb dX0_checkInner_49 rfl (lv_at hl 1 rfl) ?_
        refine lv_iload hx hb dX0_checkInner_50 (lv_at hl 2 rfl) ?_
        replace h := ob h; obtain ⟨w_4, hw_4, h⟩ := h
        replace h := ob h; obtain ⟨v_3, hv_3, h⟩ := h
        refine ccI (As := [.int u4]) hx hb hml hts hown hK hP hD hS hA hZ (X := 3) (by decide) rfl (ckE_some hw_4) (sc_X2_has l dC dI cB cI cJ cZ cS cO b K V fz F cs1 u3 u4 v_3 hv_3) (cw_X0_X2_has hts (fr := 0) (by show 0 + 1 ≤ n + 1 + 6; omega) (by show 8 + (2 + 11) + 60 * (0) ≤ 60 * (n + 1 + 6); omega)) rfl hl.1 (Nat.le_of_ble_eq_true rfl) ⟨Nat.zero_le _, Nat.zero_le _⟩ dX0_checkInner_52 (fun H locs hP hD hS => ?_)
        refine lv_if_eq (tgt := 87) hx hb dX0_checkInner_55 (by decide) (fun c_5 => ?_) (fun c_5 => ?_)
        · skip
          replace h := (if_pos c_5).symm.trans h
          exact B_87 cs1 h _ _ _ hP hD hS (lv_sub hl [] rfl)
        · skip
          replace h := (if_neg c_5).symm.trans h
          refine lv_aload_n hx hb dX0_checkInner_58 rfl (lv_at hl 0 rfl) ?_
          replace h := ob h; obtain ⟨v_6, hv_6, h⟩ := h
          refine fg_X0_183 hx hb hts hown hK hP hv_6 dX0_checkInner_59 ?_
          refine lv_iconst (v := (-1)) hx hb dX0_checkInner_62 (by decide) ?_
          refine lv_aload_n hx hb dX0_checkInner_63 rfl (lv_at hl 1 rfl) ?_
          replace h := ob h; obtain ⟨v_7, hv_7, h⟩ := h
          refine fg_X0_224 hx hb hts hown hK hP hv_7 dX0_checkInner_64 ?_
          refine lv_iload hx hb dX0_checkInner_67 (lv_at hl 2 rfl) ?_
          replace h := ob h; obtain ⟨v_8, hv_8, h⟩ := h
          refine ald2 hx hb hK hP rfl hv_8 dX0_checkInner_69 ?_
          refine lv_iconst (v := 0) hx hb dX0_checkInner_70 (by decide) ?_
          refine lv_aload_n hx hb dX0_checkInner_71 rfl (lv_at hl 1 rfl) ?_
          replace h := ob h; obtain ⟨v_9, hv_9, h⟩ := h
          refine fg_X0_227 hx hb hts hown hK hP hv_9 dX0_checkInner_72 ?_
          refine lv_iload hx hb dX0_checkInner_75 (lv_at hl 2 rfl) ?_
          replace h := ob h; obtain ⟨v_10, hv_10, h⟩ := h
          refine ald0 hx hb hK hP rfl hv_10 dX0_checkInner_77 ?_
          replace h := ob h; obtain ⟨i_12, hi_12, h⟩ := h
          subst hi_12
          replace h := ob h; obtain ⟨w_13, hw_13, h⟩ := h
          replace h := ob h; obtain ⟨cs_11, hv_11, h⟩ := h
          refine ccV (As := [.int (-1), .long v_8, .int 0, .int v_10]) hx hb hml hts hown hK hP hD hS hA hZ (X := 3) (by decide) rfl (ckE_some hw_13) (sc_X2_add l dC dI cB cI cJ cZ cS cO b K V fz F cs1 i_12 (-1) v_8 0 v_10 cs_11 hv_11) (cw_X0_X2_add hts (fr := 1) (by show 1 + 1 ≤ n + 1 + 6; omega) (by show 8 + (6 + 11) + 60 * (1) ≤ 60 * (n + 1 + 6); omega)) rfl hl.1 (Nat.le_of_ble_eq_true rfl) ⟨Nat.zero_le _, Nat.zero_le _⟩ dX0_checkInner_78 (fun H locs hP hD hS => ?_)
          refine lv_iinc (v := u4 + 1) (lv' := [(4, .int (u4 + 1)), (1, .ref (b + u1)), (3, .ref (b + u3))]) hx hb dX0_checkInner_81 hl (k := 2) rfl rfl (by decide) rfl (fun ls hl => ?_)
          refine lv_goto (tgt := 40) hx hb dX0_checkInner_84 (by decide) ?_
          exact ih_40 cs_11 u1 u3 (u4 + 1) h _ _ _ hP hD hS (lv_sub hl [1, 2, 0] rfl)
  have B_37 : ∀ (cs1 : CS) (u1 : Nat) (u3 : Nat), c_X0_checkInner_b37 F T cs1 u1 u3 = some cs9 → ∀ (H : Heap) (locs : List Loc) (ls : Array Slot), va_P (dC, dI) vwCl (cW cB cI cJ cZ cS cO b cs1) H → va_D A (cW cB cI cJ cZ cS cO b cs1) → va_S A s.heap H locs → lv_has ls 5 [(1, .ref (b + u1)), (3, .ref (b + u3))] → W p l e (headSpec (wsOf yX0_checkInner cX0_checkInner 5 none) ({ frames := n + 1 + 6, cells := 0, slots := 0, locals := 60 * (n + 1 + 6) } : Room)).room s m ([.ref (b + x0), .ref (b + x1), .ref (b + x2)] : List Value).toArray below meth c H locs 0 0 (MQ below (va_Qv (fun (_ : Unit) => True) (fun _ t_ => va_P (dC, dI) vwCl (cW cB cI cJ cZ cS cO b cs9) t_.heap ∧ va_D A (cW cB cI cJ cZ cS cO b cs9)) A) ([.ref (b + x0), .ref (b + x1), .ref (b + x2)] : List Value).toArray s 0 0 A) (F0 m 37 ls []) := by
    intro cs1 u1 u3 h H locs ls hP hD hS hl
    unfold c_X0_checkInner_b37 at h
    refine lv_iconst (v := 0) hx hb dX0_checkInner_37 (by decide) ?_
    refine lv_istore (lv' := [(4, .int 0), (1, .ref (b + u1)), (3, .ref (b + u3))]) hx hb dX0_checkInner_38 hl (by decide) rfl (fun ls hl => ?_)
    exact L_40 F cs1 u1 u3 0 h _ _ _ hP hD hS (lv_sub hl [1, 2, 0] rfl)
  have h := hf
  unfold cb_X0_checkInner at h
  refine lv_aload_n hx hb dX0_checkInner_0 rfl (lv_at hl 0 rfl) ?_
  refine lv_aload_n hx hb dX0_checkInner_1 rfl (lv_at hl 2 rfl) ?_
  replace h := ob h; obtain ⟨w_15, hw_15, h⟩ := h
  replace h := ob h; obtain ⟨cs_14, hv_14, h⟩ := h
  refine ccV (As := [.ref (b + x2)]) hx hb hml hts hown hK hP hD hS hA hZ (X := 1) (by decide) rfl (ckE_some hw_15) (hT_X0_checkQuery cs x0 x2 cs_14 hv_14) (cw_X0_X0_checkQuery hts (fr := n + 6) (by show n + 6 + 1 ≤ n + 1 + 6; omega) (by show 8 + (4 + 11) + 60 * (n + 6) ≤ 60 * (n + 1 + 6); omega)) rfl hl.1 (Nat.le_of_ble_eq_true rfl) ⟨Nat.zero_le _, Nat.zero_le _⟩ dX0_checkInner_2 (fun H locs hP hD hS => ?_)
  refine lv_aload_n hx hb dX0_checkInner_5 rfl (lv_at hl 0 rfl) ?_
  replace h := ob h; obtain ⟨w_17, hw_17, h⟩ := h
  replace h := ob h; obtain ⟨v_16, hv_16, h⟩ := h
  refine ccI (As := []) hx hb hml hts hown hK hP hD hS hA hZ (X := 1) (by decide) rfl (ckE_some hw_17) (sc_X0_isFaulty l dC dI cB cI cJ cZ cS cO b K V fz F cs_14 x0 v_16 hv_16) (cw_X0_X0_isFaulty hts (fr := 0) (by show 0 + 1 ≤ n + 1 + 6; omega) (by show 8 + (1 + 11) + 60 * (0) ≤ 60 * (n + 1 + 6); omega)) rfl hl.1 (Nat.le_of_ble_eq_true rfl) ⟨Nat.zero_le _, Nat.zero_le _⟩ dX0_checkInner_6 (fun H locs hP hD hS => ?_)
  refine lv_if_eq (tgt := 13) hx hb dX0_checkInner_9 (by decide) (fun c_18 => ?_) (fun c_18 => ?_)
  · skip
    replace h := (if_pos c_18).symm.trans h
    refine lv_aload_n hx hb dX0_checkInner_13 rfl (lv_at hl 2 rfl) ?_
    replace h := ob h; obtain ⟨v_19, hv_19, h⟩ := h
    refine fg_X0_90 hx hb hts hown hK hP hv_19 dX0_checkInner_14 ?_
    refine lv_astore_nO (lv' := [(3, rv b v_19), (0, .ref (b + x0)), (1, .ref (b + x1)), (2, .ref (b + x2))]) hx hb dX0_checkInner_17 rfl hl (by decide) rfl (fun ls hl => ?_)
    refine lv_aload_nO hx hb dX0_checkInner_18 rfl (lv_at hl 0 rfl) ?_
    replace h := ob h; obtain ⟨i_21, hi_21, h⟩ := h
    subst hi_21
    replace h := ob h; obtain ⟨w_22, hw_22, h⟩ := h
    replace h := ob h; obtain ⟨v_20, hv_20, h⟩ := h
    refine ccI (As := []) hx hb hml hts hown hK hP hD hS hA hZ (X := 3) (by decide) rfl (ckE_some hw_22) (sc_X2_allNamedApart l dC dI cB cI cJ cZ cS cO b K V fz F cs_14 i_21 v_20 hv_20) (cw_X0_X2_allNamedApart hts (fr := 2) (by show 2 + 1 ≤ n + 1 + 6; omega) (by show 8 + (2 + 11) + 60 * (2) ≤ 60 * (n + 1 + 6); omega)) rfl hl.1 (Nat.le_of_ble_eq_true rfl) ⟨Nat.zero_le _, Nat.zero_le _⟩ dX0_checkInner_19 (fun H locs hP hD hS => ?_)
    refine lv_if_ne (tgt := 37) hx hb dX0_checkInner_22 (by decide) (fun c_23 => ?_) (fun c_23 => ?_)
    · skip
      replace h := (if_neg c_23).symm.trans h
      exact B_37 cs_14 x1 i_21 h _ _ _ hP hD hS (lv_sub hl [2, 0] rfl)
    · skip
      replace h := (if_pos c_23).symm.trans h
      refine lv_aload_n hx hb dX0_checkInner_25 rfl (lv_at hl 1 rfl) ?_
      replace h := ob h; obtain ⟨v_24, hv_24, h⟩ := h
      refine fg_X0_9 hx hb hts hown hK hP hv_24 dX0_checkInner_26 ?_
      refine lv_iconst (v := 2) hx hb dX0_checkInner_29 (by decide) ?_
      refine lv_aload_n hx hb dX0_checkInner_30 rfl (lv_at hl 2 rfl) ?_
      replace h := ob h; obtain ⟨v_25, hv_25, h⟩ := h
      refine fg_X0_218 hx hb hts hown hK hP hv_25 dX0_checkInner_31 ?_
      replace h := ob h; obtain ⟨i_27, hi_27, h⟩ := h
      subst hi_27
      replace h := ob h; obtain ⟨w_28, hw_28, h⟩ := h
      replace h := ob h; obtain ⟨cs_26, hv_26, h⟩ := h
      refine ccV (As := [.int 2, .int v_25]) hx hb hml hts hown hK hP hD hS hA hZ (X := 10) (by decide) rfl (ckE_some hw_28) (sc_X9_refuse l dC dI cB cI cJ cZ cS cO b K V fz F cs_14 i_27 2 v_25 cs_26 hv_26) (cw_X0_X9_refuse hts (fr := 0) (by show 0 + 1 ≤ n + 1 + 6; omega) (by show 8 + (3 + 11) + 60 * (0) ≤ 60 * (n + 1 + 6); omega)) rfl hl.1 (Nat.le_of_ble_eq_true rfl) ⟨Nat.zero_le _, Nat.zero_le _⟩ dX0_checkInner_34 (fun H locs hP hD hS => ?_)
      exact B_37 cs_26 x1 i_21 h _ _ _ hP hD hS (lv_sub hl [2, 0] rfl)
  · skip
    replace h := (if_neg c_18).symm.trans h
    have e1 := Option.some.inj h
    rw [e1] at hP hD
    exact W.vret hx hb hr (fun t_ ht hW => ⟨⟨(), rfl, trivial, by rw [ht]; exact hP, hD⟩, hS.F ht⟩) hS.2.2 dX0_checkInner_12
theorem sgc_X0_checkQuery (l : Launch) (dC : Nat → ClassId) (dI : Nat → Nat → Nat) (cB cI cJ cZ cS cO : ClassId) (b : Nat) (K V : Nat → Nat) (fz : Value) (F : Nat) : ∀ n : Nat, (∀ (cs : CS) (x0 : Nat) (x1 : Nat) (cs9 : CS), (tabc_X0_checkQuery F n).1 cs x0 x1 = some cs9 → ocV l dC dI cB cI cJ cZ cS cO b K V fz yX0_checkQuery (wsOf yX0_checkQuery cX0_checkQuery 4 none) (n + 6) [.ref (b + x0), .ref (b + x1)] cs cs9) ∧ (∀ (cs : CS) (x0 : Nat) (x1 : Nat) (cs9 : CS), (tabc_X0_checkQuery F n).2.1 cs x0 x1 = some cs9 → ocV l dC dI cB cI cJ cZ cS cO b K V fz yX0_checkSelect (wsOf yX0_checkSelect cX0_checkSelect 3 none) (n + 6) [.ref (b + x0), .ref (b + x1)] cs cs9) ∧ (∀ (cs : CS) (x0 : Nat) (x1 : Nat) (x2 : Int32) (cs9 : CS), (tabc_X0_checkQuery F n).2.2.1 cs x0 x1 x2 = some cs9 → ocV l dC dI cB cI cJ cZ cS cO b K V fz yX0_checkSource (wsOf yX0_checkSource cX0_checkSource 6 none) (n + 6) [.ref (b + x0), .ref (b + x1), .int x2] cs cs9) ∧ (∀ (cs : CS) (x0 : Nat) (x1 : Nat) (x2 : Nat) (cs9 : CS), (tabc_X0_checkQuery F n).2.2.2 cs x0 x1 x2 = some cs9 → ocV l dC dI cB cI cJ cZ cS cO b K V fz yX0_checkInner (wsOf yX0_checkInner cX0_checkInner 5 none) (n + 6) [.ref (b + x0), .ref (b + x1), .ref (b + x2)] cs cs9) := by
  intro n
  induction n with
  | zero => exact ⟨fun _ _ _ _ h => (by cases (show (none : Option CS) = _ from h)), fun _ _ _ _ h => (by cases (show (none : Option CS) = _ from h)), fun _ _ _ _ _ h => (by cases (show (none : Option CS) = _ from h)), fun _ _ _ _ _ h => (by cases (show (none : Option CS) = _ from h))⟩
  | succ n ih =>
    obtain ⟨hh0, hh1, hh2, hh3⟩ := ih
    exact ⟨fun cs w0 w1 w2 hf => sbc_X0_checkQuery l dC dI cB cI cJ cZ cS cO b K V fz F n (tabc_X0_checkQuery F n) hh0 hh1 hh2 hh3 cs w0 w1 w2 hf, fun cs w0 w1 w2 hf => sbc_X0_checkSelect l dC dI cB cI cJ cZ cS cO b K V fz F n (tabc_X0_checkQuery F n) hh0 hh1 hh2 hh3 cs w0 w1 w2 hf, fun cs w0 w1 w2 w3 hf => sbc_X0_checkSource l dC dI cB cI cJ cZ cS cO b K V fz F n (tabc_X0_checkQuery F n) hh0 hh1 hh2 hh3 cs w0 w1 w2 w3 hf, fun cs w0 w1 w2 w3 hf => sbc_X0_checkInner l dC dI cB cI cJ cZ cS cO b K V fz F n (tabc_X0_checkQuery F n) hh0 hh1 hh2 hh3 cs w0 w1 w2 w3 hf⟩
def c_X0_checkQuery (F n : Nat) (cs : CS) (x0 : Nat) (x1 : Nat) : Option CS := (tabc_X0_checkQuery F n).1 cs x0 x1
theorem sc_X0_checkQuery (l : Launch) (dC : Nat → ClassId) (dI : Nat → Nat → Nat) (cB cI cJ cZ cS cO : ClassId) (b : Nat) (K V : Nat → Nat) (fz : Value) (F n : Nat) (cs : CS) (x0 : Nat) (x1 : Nat) (cs9 : CS) (hf : c_X0_checkQuery F n cs x0 x1 = some cs9) : ocV l dC dI cB cI cJ cZ cS cO b K V fz yX0_checkQuery (wsOf yX0_checkQuery cX0_checkQuery 4 none) (n + 6) [.ref (b + x0), .ref (b + x1)] cs cs9 := (sgc_X0_checkQuery l dC dI cB cI cJ cZ cS cO b K V fz F n).1 cs x0 x1 cs9 hf
def c_X0_checkSelect (F n : Nat) (cs : CS) (x0 : Nat) (x1 : Nat) : Option CS := (tabc_X0_checkQuery F n).2.1 cs x0 x1
theorem sc_X0_checkSelect (l : Launch) (dC : Nat → ClassId) (dI : Nat → Nat → Nat) (cB cI cJ cZ cS cO : ClassId) (b : Nat) (K V : Nat → Nat) (fz : Value) (F n : Nat) (cs : CS) (x0 : Nat) (x1 : Nat) (cs9 : CS) (hf : c_X0_checkSelect F n cs x0 x1 = some cs9) : ocV l dC dI cB cI cJ cZ cS cO b K V fz yX0_checkSelect (wsOf yX0_checkSelect cX0_checkSelect 3 none) (n + 6) [.ref (b + x0), .ref (b + x1)] cs cs9 := (sgc_X0_checkQuery l dC dI cB cI cJ cZ cS cO b K V fz F n).2.1 cs x0 x1 cs9 hf
def c_X0_checkSource (F n : Nat) (cs : CS) (x0 : Nat) (x1 : Nat) (x2 : Int32) : Option CS := (tabc_X0_checkQuery F n).2.2.1 cs x0 x1 x2
theorem sc_X0_checkSource (l : Launch) (dC : Nat → ClassId) (dI : Nat → Nat → Nat) (cB cI cJ cZ cS cO : ClassId) (b : Nat) (K V : Nat → Nat) (fz : Value) (F n : Nat) (cs : CS) (x0 : Nat) (x1 : Nat) (x2 : Int32) (cs9 : CS) (hf : c_X0_checkSource F n cs x0 x1 x2 = some cs9) : ocV l dC dI cB cI cJ cZ cS cO b K V fz yX0_checkSource (wsOf yX0_checkSource cX0_checkSource 6 none) (n + 6) [.ref (b + x0), .ref (b + x1), .int x2] cs cs9 := (sgc_X0_checkQuery l dC dI cB cI cJ cZ cS cO b K V fz F n).2.2.1 cs x0 x1 x2 cs9 hf
def c_X0_checkInner (F n : Nat) (cs : CS) (x0 : Nat) (x1 : Nat) (x2 : Nat) : Option CS := (tabc_X0_checkQuery F n).2.2.2 cs x0 x1 x2
theorem sc_X0_checkInner (l : Launch) (dC : Nat → ClassId) (dI : Nat → Nat → Nat) (cB cI cJ cZ cS cO : ClassId) (b : Nat) (K V : Nat → Nat) (fz : Value) (F n : Nat) (cs : CS) (x0 : Nat) (x1 : Nat) (x2 : Nat) (cs9 : CS) (hf : c_X0_checkInner F n cs x0 x1 x2 = some cs9) : ocV l dC dI cB cI cJ cZ cS cO b K V fz yX0_checkInner (wsOf yX0_checkInner cX0_checkInner 5 none) (n + 6) [.ref (b + x0), .ref (b + x1), .ref (b + x2)] cs cs9 := (sgc_X0_checkQuery l dC dI cB cI cJ cZ cS cO b K V fz F n).2.2.2 cs x0 x1 x2 cs9 hf
