/-! the class, mirrored: what makes cells -/
theorem dX10_init_0 : decode cX10_init 0 = .ok (.aload_n 0, 1) := by decide +kernel
theorem dX10_init_1 : decode cX10_init 1 = .ok (.invokespecial 3, 3) := by decide +kernel
theorem dX10_init_4 : decode cX10_init 4 = .ok (.aload_n 0, 1) := by decide +kernel
theorem dX10_init_5 : decode cX10_init 5 = .ok (.sipush 2001, 3) := by decide +kernel
theorem dX10_init_8 : decode cX10_init 8 = .ok (.newarray .int, 2) := by decide +kernel
theorem dX10_init_10 : decode cX10_init 10 = .ok (.putfield 9, 3) := by decide +kernel
theorem dX10_init_13 : decode cX10_init 13 = .ok (.aload_n 0, 1) := by decide +kernel
theorem dX10_init_14 : decode cX10_init 14 = .ok (.sipush 2001, 3) := by decide +kernel
theorem dX10_init_17 : decode cX10_init 17 = .ok (.newarray .int, 2) := by decide +kernel
theorem dX10_init_19 : decode cX10_init 19 = .ok (.putfield 15, 3) := by decide +kernel
theorem dX10_init_22 : decode cX10_init 22 = .ok (.aload_n 0, 1) := by decide +kernel
theorem dX10_init_23 : decode cX10_init 23 = .ok (.sipush 2001, 3) := by decide +kernel
theorem dX10_init_26 : decode cX10_init 26 = .ok (.newarray .long, 2) := by decide +kernel
theorem dX10_init_28 : decode cX10_init 28 = .ok (.putfield 18, 3) := by decide +kernel
theorem dX10_init_31 : decode cX10_init 31 = .ok (.aload_n 0, 1) := by decide +kernel
theorem dX10_init_32 : decode cX10_init 32 = .ok (.iconst 0, 1) := by decide +kernel
theorem dX10_init_33 : decode cX10_init 33 = .ok (.newarray .byte, 2) := by decide +kernel
theorem dX10_init_35 : decode cX10_init 35 = .ok (.putfield 22, 3) := by decide +kernel
theorem dX10_init_38 : decode cX10_init 38 = .ok (.aload_n 0, 1) := by decide +kernel
theorem dX10_init_39 : decode cX10_init 39 = .ok (.bipush 39, 2) := by decide +kernel
theorem dX10_init_41 : decode cX10_init 41 = .ok (.newarray .long, 2) := by decide +kernel
theorem dX10_init_43 : decode cX10_init 43 = .ok (.putfield 26, 3) := by decide +kernel
theorem dX10_init_46 : decode cX10_init 46 = .ok (.lconst 0, 1) := by decide +kernel
theorem dX10_init_47 : decode cX10_init 47 = .ok (.lstore_n 1, 1) := by decide +kernel
theorem dX10_init_48 : decode cX10_init 48 = .ok (.iconst 0, 1) := by decide +kernel
theorem dX10_init_49 : decode cX10_init 49 = .ok (.istore_n 3, 1) := by decide +kernel
theorem dX10_init_50 : decode cX10_init 50 = .ok (.iconst 0, 1) := by decide +kernel
theorem dX10_init_51 : decode cX10_init 51 = .ok (.istore 4, 2) := by decide +kernel
theorem dX10_init_53 : decode cX10_init 53 = .ok (.iload 4, 2) := by decide +kernel
theorem dX10_init_55 : decode cX10_init 55 = .ok (.ldc 29, 2) := by decide +kernel
theorem dX10_init_57 : decode cX10_init 57 = .ok (.invokevirtual 31, 3) := by decide +kernel
theorem dX10_init_60 : decode cX10_init 60 = .ok (.if_icmp .ge 62, 3) := by decide +kernel
theorem dX10_init_63 : decode cX10_init 63 = .ok (.iload_n 3, 1) := by decide +kernel
theorem dX10_init_64 : decode cX10_init 64 = .ok (.aload_n 0, 1) := by decide +kernel
theorem dX10_init_65 : decode cX10_init 65 = .ok (.getfield 26, 3) := by decide +kernel
theorem dX10_init_68 : decode cX10_init 68 = .ok (.arraylength, 1) := by decide +kernel
theorem dX10_init_69 : decode cX10_init 69 = .ok (.if_icmp .ge 53, 3) := by decide +kernel
theorem dX10_init_72 : decode cX10_init 72 = .ok (.ldc 29, 2) := by decide +kernel
theorem dX10_init_74 : decode cX10_init 74 = .ok (.iload 4, 2) := by decide +kernel
theorem dX10_init_76 : decode cX10_init 76 = .ok (.invokevirtual 37, 3) := by decide +kernel
theorem dX10_init_79 : decode cX10_init 79 = .ok (.istore 5, 2) := by decide +kernel
theorem dX10_init_81 : decode cX10_init 81 = .ok (.iload 5, 2) := by decide +kernel
theorem dX10_init_83 : decode cX10_init 83 = .ok (.bipush 32, 2) := by decide +kernel
theorem dX10_init_85 : decode cX10_init 85 = .ok (.if_icmp .ne 18, 3) := by decide +kernel
theorem dX10_init_88 : decode cX10_init 88 = .ok (.aload_n 0, 1) := by decide +kernel
theorem dX10_init_89 : decode cX10_init 89 = .ok (.getfield 26, 3) := by decide +kernel
theorem dX10_init_92 : decode cX10_init 92 = .ok (.iload_n 3, 1) := by decide +kernel
theorem dX10_init_93 : decode cX10_init 93 = .ok (.lload_n 1, 1) := by decide +kernel
theorem dX10_init_94 : decode cX10_init 94 = .ok (.lastore, 1) := by decide +kernel
theorem dX10_init_95 : decode cX10_init 95 = .ok (.iinc 3 1, 3) := by decide +kernel
theorem dX10_init_98 : decode cX10_init 98 = .ok (.lconst 0, 1) := by decide +kernel
theorem dX10_init_99 : decode cX10_init 99 = .ok (.lstore_n 1, 1) := by decide +kernel
theorem dX10_init_100 : decode cX10_init 100 = .ok (.goto 16, 3) := by decide +kernel
theorem dX10_init_103 : decode cX10_init 103 = .ok (.lload_n 1, 1) := by decide +kernel
theorem dX10_init_104 : decode cX10_init 104 = .ok (.ldc2_w 41, 3) := by decide +kernel
theorem dX10_init_107 : decode cX10_init 107 = .ok (.lmul, 1) := by decide +kernel
theorem dX10_init_108 : decode cX10_init 108 = .ok (.iload 5, 2) := by decide +kernel
theorem dX10_init_110 : decode cX10_init 110 = .ok (.invokestatic 43, 3) := by decide +kernel
theorem dX10_init_113 : decode cX10_init 113 = .ok (.i2l, 1) := by decide +kernel
theorem dX10_init_114 : decode cX10_init 114 = .ok (.ladd, 1) := by decide +kernel
theorem dX10_init_115 : decode cX10_init 115 = .ok (.lstore_n 1, 1) := by decide +kernel
theorem dX10_init_116 : decode cX10_init 116 = .ok (.iinc 4 1, 3) := by decide +kernel
theorem dX10_init_119 : decode cX10_init 119 = .ok (.goto (-66), 3) := by decide +kernel
theorem dX10_init_122 : decode cX10_init 122 = .ok (.return_, 1) := by decide +kernel
def c_X10_init_b122 (F : Nat) (cs1 : CS) : Option CS := some cs1
def c_X10_init_b116 (F : Nat) (rc53 : CS → Nat → Int64 → Int32 → Int32 → Option CS) (cs1 : CS) (u0 : Nat) (u1 : Int64) (u3 : Int32) (u4 : Int32) : Option CS := rc53 cs1 u0 u1 u3 (u4 + 1)
def c_X10_init_L53 (F : Nat) : Nat → CS → Nat → Int64 → Int32 → Int32 → Option CS
  | 0, _, _, _, _, _ => none
  | lf_53 + 1, cs1, u0, u1, u3, u4 => if (lnS 0) ≤ u4 then (c_X10_init_b122 F cs1) else (Option.bind (gA cs1 11 358 u0) fun v_3 => Option.bind (lnA cs1 358 u0 v_3) fun v_4 => if v_4 ≤ u3 then (c_X10_init_b122 F cs1) else (Option.bind (chS 0 u4) fun v_6 => if v_6 = 32 then (Option.bind (gA cs1 11 358 u0) fun v_8 => Option.bind (wB cs1 358 u0 v_8 u3 u1) fun cs_9 => c_X10_init_b116 F (c_X10_init_L53 F lf_53) cs_9 u0 0 (u3 + 1) u4) else (Option.bind (c_X10_letterCode F cs1 v_6) fun v_10 => c_X10_init_b116 F (c_X10_init_L53 F lf_53) cs1 u0 ((u1 * (37)) + ((v_10 : Int32).toInt64)) u3 u4)))
def c_X10_init_b46 (F : Nat) (cs1 : CS) (u0 : Nat) : Option CS := c_X10_init_L53 F F cs1 u0 0 0 0
def c_X10_init_b38 (F : Nat) (cs1 : CS) (u0 : Nat) : Option CS := Option.bind (nwA cs1 11 358 u0 39) fun cs_11 => c_X10_init_b46 F cs_11 u0
def c_X10_init_b31 (F : Nat) (cs1 : CS) (u0 : Nat) : Option CS := Option.bind (nwA cs1 11 355 u0 0) fun cs_12 => c_X10_init_b38 F cs_12 u0
def c_X10_init_b22 (F : Nat) (cs1 : CS) (u0 : Nat) : Option CS := Option.bind (nwA cs1 11 354 u0 2001) fun cs_13 => c_X10_init_b31 F cs_13 u0
def c_X10_init_b13 (F : Nat) (cs1 : CS) (u0 : Nat) : Option CS := Option.bind (nwA cs1 11 353 u0 2001) fun cs_14 => c_X10_init_b22 F cs_14 u0
def c_X10_init (F : Nat) (cs : CS) (x0 : Nat) : Option CS := Option.bind (nwA cs 11 352 x0 2001) fun cs_15 => c_X10_init_b13 F cs_15 x0
theorem cw_X11_X10_init {R : Room} {s : State} {args : Array Value} {y0 : MethodName} {c0 : ByteArray} {n0 : Nat} {r0 : Option FieldType} (hts : ∀ w ∈ wsOf y0 c0 n0 r0, w.before args s = true) {fr mc ms : Nat} (h1 : fr + 1 ≤ R.frames) (h2 : 8 + (6 + 11) + 60 * fr ≤ R.locals) : CallB R s args RX11 22 yX10_init cX10_init 6 none (wsOf yX10_init cX10_init 6 none) ({ frames := fr, cells := mc, slots := ms, locals := 60 * fr } : Room) mc ms 0 ∧ yX10_init.name = "<init>" ∧ (Cond.instanceMethod yX10_init).before args s = true := cwI 0 hts (gd_all (in_I kc_X10_init)) rfl rfl rfl (hts _ (List.mem_cons_of_mem _ kw_183)) (hts _ (List.mem_cons_of_mem _ kw_258)) (hts _ (List.mem_cons_of_mem _ kw_259)) rfl (by decide +kernel) ⟨h1, h2⟩
theorem mo_c_X10_init_b122 (F : Nat) (cs1 : CS) (cs9 : CS) (h : c_X10_init_b122 F cs1 = some cs9) : kK cs1 ≤ kK cs9 ∧ kM cs1 ≤ kM cs9 := by
  unfold c_X10_init_b122 at h
  have h9 := Option.some.inj h
  have k9 := congrArg kK h9; have m9 := congrArg kM h9; exact ⟨by omega, by omega⟩
theorem mo_c_X10_init_b116 (F : Nat) (rc53 : CS → Nat → Int64 → Int32 → Int32 → Option CS) (hrc53 : ∀ (cs1 : CS) (u0 : Nat) (u1 : Int64) (u3 : Int32) (u4 : Int32) (cs9 : CS), rc53 cs1 u0 u1 u3 u4 = some cs9 → kK cs1 ≤ kK cs9 ∧ kM cs1 ≤ kM cs9) (cs1 : CS) (u0 : Nat) (u1 : Int64) (u3 : Int32) (u4 : Int32) (cs9 : CS) (h : c_X10_init_b116 F rc53 cs1 u0 u1 u3 u4 = some cs9) : kK cs1 ≤ kK cs9 ∧ kM cs1 ≤ kM cs9 := by
  unfold c_X10_init_b116 at h
  obtain ⟨k9, m9⟩ := hrc53 cs1 u0 u1 u3 (u4 + 1) cs9 h
  exact ⟨by omega, by omega⟩
theorem mo_c_X10_init_L53 (F : Nat) : ∀ (lf_53 : Nat) (cs1 : CS) (u0 : Nat) (u1 : Int64) (u3 : Int32) (u4 : Int32) (cs9 : CS), c_X10_init_L53 F lf_53 cs1 u0 u1 u3 u4 = some cs9 → kK cs1 ≤ kK cs9 ∧ kM cs1 ≤ kM cs9 := by
  intro lf_53
  induction lf_53 with
  | zero => intro cs1 u0 u1 u3 u4 cs9 h; cases (show (none : Option CS) = _ from h)
  | succ lf_53 ih_53 =>
    intro cs1 u0 u1 u3 u4 cs9 h
    rw [c_X10_init_L53] at h
    by_cases c_16 : (lnS 0) ≤ u4
    · skip
      replace h := (if_pos c_16).symm.trans h
      obtain ⟨k9, m9⟩ := mo_c_X10_init_b122 F cs1 cs9 h
      exact ⟨by omega, by omega⟩
    · skip
      replace h := (if_neg c_16).symm.trans h
      replace h := ob h; obtain ⟨v_17, hv_17, h⟩ := h
      replace h := ob h; obtain ⟨v_18, hv_18, h⟩ := h
      by_cases c_19 : v_18 ≤ u3
      · skip
        replace h := (if_pos c_19).symm.trans h
        obtain ⟨k9, m9⟩ := mo_c_X10_init_b122 F cs1 cs9 h
        exact ⟨by omega, by omega⟩
      · skip
        replace h := (if_neg c_19).symm.trans h
        replace h := ob h; obtain ⟨v_20, hv_20, h⟩ := h
        by_cases c_21 : v_20 = 32
        · skip
          replace h := (if_pos c_21).symm.trans h
          replace h := ob h; obtain ⟨v_22, hv_22, h⟩ := h
          replace h := ob h; obtain ⟨cs_23, hv_23, h⟩ := h
          obtain ⟨qk_23, qm_23⟩ := wB_k hv_23
          obtain ⟨k9, m9⟩ := mo_c_X10_init_b116 F (c_X10_init_L53 F lf_53) ih_53 cs_23 u0 0 (u3 + 1) u4 cs9 h
          exact ⟨by omega, by omega⟩
        · skip
          replace h := (if_neg c_21).symm.trans h
          replace h := ob h; obtain ⟨v_24, hv_24, h⟩ := h
          obtain ⟨k9, m9⟩ := mo_c_X10_init_b116 F (c_X10_init_L53 F lf_53) ih_53 cs1 u0 ((u1 * (37)) + ((v_24 : Int32).toInt64)) u3 u4 cs9 h
          exact ⟨by omega, by omega⟩
theorem mo_c_X10_init_b46 (F : Nat) (cs1 : CS) (u0 : Nat) (cs9 : CS) (h : c_X10_init_b46 F cs1 u0 = some cs9) : kK cs1 ≤ kK cs9 ∧ kM cs1 ≤ kM cs9 := by
  unfold c_X10_init_b46 at h
  obtain ⟨k9, m9⟩ := mo_c_X10_init_L53 F F cs1 u0 0 0 0 cs9 h
  exact ⟨by omega, by omega⟩
theorem mo_c_X10_init_b38 (F : Nat) (cs1 : CS) (u0 : Nat) (cs9 : CS) (h : c_X10_init_b38 F cs1 u0 = some cs9) : kK cs1 ≤ kK cs9 ∧ kM cs1 ≤ kM cs9 := by
  unfold c_X10_init_b38 at h
  replace h := ob h; obtain ⟨cs_15, hv_15, h⟩ := h
  obtain ⟨qk_15, qm_15⟩ := nwA_k hv_15
  obtain ⟨k9, m9⟩ := mo_c_X10_init_b46 F cs_15 u0 cs9 h
  exact ⟨by omega, by omega⟩
theorem mo_c_X10_init_b31 (F : Nat) (cs1 : CS) (u0 : Nat) (cs9 : CS) (h : c_X10_init_b31 F cs1 u0 = some cs9) : kK cs1 ≤ kK cs9 ∧ kM cs1 ≤ kM cs9 := by
  unfold c_X10_init_b31 at h
  replace h := ob h; obtain ⟨cs_15, hv_15, h⟩ := h
  obtain ⟨qk_15, qm_15⟩ := nwA_k hv_15
  obtain ⟨k9, m9⟩ := mo_c_X10_init_b38 F cs_15 u0 cs9 h
  exact ⟨by omega, by omega⟩
theorem mo_c_X10_init_b22 (F : Nat) (cs1 : CS) (u0 : Nat) (cs9 : CS) (h : c_X10_init_b22 F cs1 u0 = some cs9) : kK cs1 ≤ kK cs9 ∧ kM cs1 ≤ kM cs9 := by
  unfold c_X10_init_b22 at h
  replace h := ob h; obtain ⟨cs_15, hv_15, h⟩ := h
  obtain ⟨qk_15, qm_15⟩ := nwA_k hv_15
  obtain ⟨k9, m9⟩ := mo_c_X10_init_b31 F cs_15 u0 cs9 h
  exact ⟨by omega, by omega⟩
theorem mo_c_X10_init_b13 (F : Nat) (cs1 : CS) (u0 : Nat) (cs9 : CS) (h : c_X10_init_b13 F cs1 u0 = some cs9) : kK cs1 ≤ kK cs9 ∧ kM cs1 ≤ kM cs9 := by
  unfold c_X10_init_b13 at h
  replace h := ob h; obtain ⟨cs_15, hv_15, h⟩ := h
  obtain ⟨qk_15, qm_15⟩ := nwA_k hv_15
  obtain ⟨k9, m9⟩ := mo_c_X10_init_b22 F cs_15 u0 cs9 h
  exact ⟨by omega, by omega⟩
theorem mo_c_X10_init (F : Nat) (cs : CS) (x0 : Nat) (cs9 : CS) (h : c_X10_init F cs x0 = some cs9) : kK cs ≤ kK cs9 ∧ kM cs ≤ kM cs9 := by
  unfold c_X10_init at h
  replace h := ob h; obtain ⟨cs_15, hv_15, h⟩ := h
  obtain ⟨qk_15, qm_15⟩ := nwA_k hv_15
  obtain ⟨k9, m9⟩ := mo_c_X10_init_b13 F cs_15 x0 cs9 h
  exact ⟨by omega, by omega⟩
set_option maxHeartbeats 4000000 in
set_option maxRecDepth 100000 in
theorem sa_X10_init (l : Launch) (dC : Nat → ClassId) (dI : Nat → Nat → Nat) (cB cI cJ cZ cS cO : ClassId) (b : Nat) (K V : Nat → Nat) (fz : Value) (F : Nat) (cs : CS) (x0 : Nat) (cs9 : CS) (hf : c_X10_init F cs x0 = some cs9) : oaV l dC dI cB cI cJ cZ cS cO b K V fz yX10_init (wsOf yX10_init cX10_init 6 none) (7) [.ref (b + x0)] cs cs9 := by
  obtain ⟨kb9, mb9⟩ := mo_c_X10_init F cs x0 cs9 hf
  refine ⟨⟨kb9, mb9⟩, ?_⟩
  refine Met.ofW (cc := cX10_init) (maxL := 6) (ret := none) (by decide) rfl ?_
  intro p e s m args below meth c s₁ B hml hv
  obtain ⟨rfl, hsz, hP, hK, hD0, hZ⟩ := hv
  have hx := B.exec
  have hb := B.bytes
  have hr := B.returns
  have hts := atoms_spec (ws := (wsOf yX10_init cX10_init 6 none)) B.pre
  have hown : s.vm.findClass RX10 = some m.cls := findClass_of_methodNamed B.named
  have hin : meth.name = "<init>" := (name_of_methodNamed B.named B.method).1
  have hlocks := B.notSynchronized
  have hD := hD0.self (sz := b + kK cs)
  generalize hAe : va_A (cW cB cI cJ cZ cS cO b cs) (b + kK cs) = A at hD hZ ⊢
  have hA : ∀ q : Nat, s.heap.size ≤ q → A q := fun q h => by rw [← hAe]; exact Or.inr (by omega)
  have hS : va_S A s.heap s.heap [] := va_S.rf
  have hG : va_S A s.heap s.heap [] := va_S.rf
  have hgz : s.heap.size = b + kK cs := hsz
  have hl := lv_entry ([.ref (b + x0)]) (n := 6) (Nat.le_of_ble_eq_true rfl)
  rw [lg_entry_eq]
  generalize (lg_sl ([.ref (b + x0)]) ++ List.replicate (6 - (lg_sl ([.ref (b + x0)])).length) Slot.unset).toArray = ls at hl ⊢
  have hl : lv_has ls 6 [(0, .ref (b + x0))] := hl
  have B_122 : ∀ (cs1 : CS) , c_X10_init_b122 F cs1 = some cs9 → kK cs ≤ kK cs1 → kM cs ≤ kM cs1 → ∀ (Gh H : Heap) (locs : List Loc) (ls : Array Slot), va_P (dC, dI) vwCl (cW cB cI cJ cZ cS cO b cs1) H → va_D A (cW cB cI cJ cZ cS cO b cs1) → va_S A s.heap Gh [] → Gh.size = b + kK cs1 → va_S A Gh H locs → lv_has ls 6 [] → W p l e (headSpec (wsOf yX10_init cX10_init 6 none) ({ frames := 7, cells := kK cs9 - kK cs, slots := kM cs9 - kM cs, locals := 60 * (7) } : Room)).room s m ([.ref (b + x0)] : List Value).toArray below meth c H locs (kK cs1 - kK cs) (kM cs1 - kM cs) (MQ below (va_Qv (fun (_ : Unit) => True) (fun _ t_ => va_P (dC, dI) vwCl (cW cB cI cJ cZ cS cO b cs9) t_.heap ∧ va_D A (cW cB cI cJ cZ cS cO b cs9) ∧ b + kK cs9 ≤ t_.heap.size) A) ([.ref (b + x0)] : List Value).toArray s (kK cs9 - kK cs) (kM cs9 - kM cs) A) (F0 m 122 ls []) := by
    intro cs1  h hmk hmm Gh H locs ls hP hD hG hgz hS hl
    obtain ⟨kb9, mb9⟩ := mo_c_X10_init_b122 F cs1  cs9 h
    unfold c_X10_init_b122 at h
    have e1 := Option.some.inj h
    rw [e1] at hP hD
    have e3 := congrArg kK e1
    have e4 := congrArg kM e1
    refine W_cnt (c2 := kK cs9 - kK cs) (n2 := kM cs9 - kM cs) (by omega) (by omega) ?_
    exact W.vret hx hb hr (fun t_ ht hW => ⟨⟨(), rfl, trivial, by rw [ht]; exact hP, hD, by rw [ht]; have := hS.1; omega⟩, (hG.comp hS).F ht⟩) (hG.comp hS).2.2 dX10_init_122
  have L_53 : ∀ (lf_53 : Nat), ∀ (cs1 : CS) (u0 : Nat) (u1 : Int64) (u3 : Int32) (u4 : Int32), c_X10_init_L53 F lf_53 cs1 u0 u1 u3 u4 = some cs9 → kK cs ≤ kK cs1 → kM cs ≤ kM cs1 → ∀ (Gh H : Heap) (locs : List Loc) (ls : Array Slot), va_P (dC, dI) vwCl (cW cB cI cJ cZ cS cO b cs1) H → va_D A (cW cB cI cJ cZ cS cO b cs1) → va_S A s.heap Gh [] → Gh.size = b + kK cs1 → va_S A Gh H locs → lv_has ls 6 [(0, .ref (b + u0)), (1, .long u1), (3, .int u3), (4, .int u4)] → W p l e (headSpec (wsOf yX10_init cX10_init 6 none) ({ frames := 7, cells := kK cs9 - kK cs, slots := kM cs9 - kM cs, locals := 60 * (7) } : Room)).room s m ([.ref (b + x0)] : List Value).toArray below meth c H locs (kK cs1 - kK cs) (kM cs1 - kM cs) (MQ below (va_Qv (fun (_ : Unit) => True) (fun _ t_ => va_P (dC, dI) vwCl (cW cB cI cJ cZ cS cO b cs9) t_.heap ∧ va_D A (cW cB cI cJ cZ cS cO b cs9) ∧ b + kK cs9 ≤ t_.heap.size) A) ([.ref (b + x0)] : List Value).toArray s (kK cs9 - kK cs) (kM cs9 - kM cs) A) (F0 m 53 ls []) := by
    intro lf_53
    induction lf_53 with
    | zero => intro cs1 u0 u1 u3 u4 h; cases (show (none : Option CS) = _ from h)
    | succ lf_53 ih_53 =>
      have B_116 : ∀ (cs1 : CS) (u0 : Nat) (u1 : Int64) (u3 : Int32) (u4 : Int32), c_X10_init_b116 F (c_X10_init_L53 F lf_53) cs1 u0 u1 u3 u4 = some cs9 → kK cs ≤ kK cs1 → kM cs ≤ kM cs1 → ∀ (Gh H : Heap) (locs : List Loc) (ls : Array Slot), va_P (dC, dI) vwCl (cW cB cI cJ cZ cS cO b cs1) H → va_D A (cW cB cI cJ cZ cS cO b cs1) → va_S A s.heap Gh [] → Gh.size = b + kK cs1 → va_S A Gh H locs → lv_has ls 6 [(0, .ref (b + u0)), (1, .long u1), (3, .int u3), (4, .int u4)] → W p l e (headSpec (wsOf yX10_init cX10_init 6 none) ({ frames := 7, cells := kK cs9 - kK cs, slots := kM cs9 - kM cs, locals := 60 * (7) } : Room)).room s m ([.ref (b + x0)] : List Value).toArray below meth c H locs (kK cs1 - kK cs) (kM cs1 - kM cs) (MQ below (va_Qv (fun (_ : Unit) => True) (fun _ t_ => va_P (dC, dI) vwCl (cW cB cI cJ cZ cS cO b cs9) t_.heap ∧ va_D A (cW cB cI cJ cZ cS cO b cs9) ∧ b + kK cs9 ≤ t_.heap.size) A) ([.ref (b + x0)] : List Value).toArray s (kK cs9 - kK cs) (kM cs9 - kM cs) A) (F0 m 116 ls []) := by
        intro cs1 u0 u1 u3 u4 h hmk hmm Gh H locs ls hP hD hG hgz hS hl
        obtain ⟨kb9, mb9⟩ := mo_c_X10_init_b116 F (c_X10_init_L53 F lf_53) (mo_c_X10_init_L53 F lf_53) cs1 u0 u1 u3 u4 cs9 h
        unfold c_X10_init_b116 at h
        refine lv_iinc (v := u4 + 1) (lv' := [(4, .int (u4 + 1)), (0, .ref (b + u0)), (1, .long u1), (3, .int u3)]) hx hb dX10_init_116 hl (k := 3) rfl rfl (by decide) rfl (fun ls hl => ?_)
        refine lv_goto (tgt := 53) hx hb dX10_init_119 (by decide) ?_
        refine W_cnt (c2 := kK cs1 - kK cs) (n2 := kM cs1 - kM cs) (by omega) (by omega) ?_
        exact ih_53 cs1 u0 u1 u3 (u4 + 1) h (by omega) (by omega) _ _ _ _ hP hD hG (by omega) hS (lv_sub hl [1, 2, 3, 0] rfl)
      intro cs1 u0 u1 u3 u4 h hmk hmm Gh H locs ls hP hD hG hgz hS hl
      obtain ⟨kb9, mb9⟩ := mo_c_X10_init_L53 F (lf_53 + 1) cs1 u0 u1 u3 u4 cs9 h
      rw [c_X10_init_L53] at h
      refine lv_iload hx hb dX10_init_53 (lv_at hl 3 rfl) ?_
      refine va_ldcS (own := RX10) (index := 29) (tx := soT 0) (q := K 0) hx hb hown (hZ.ref 0 (by decide)) dX10_init_55 ?_
      refine strLen_X10 hx hb hml hts hown hK hP hD hS hG hA (by omega) (by omega) hZ (by decide) hl.1 (Nat.le_of_ble_eq_true rfl) ⟨by show kK cs1 - kK cs + 0 ≤ kK cs9 - kK cs; omega, by show kM cs1 - kM cs + 0 ≤ kM cs9 - kM cs; omega⟩ (Nat.le_of_ble_eq_true rfl) (Nat.le_of_ble_eq_true rfl) dX10_init_57 (fun H locs hP hD hG hgz hS => ?_)
      refine lv_icmp_ge (tgt := 122) hx hb dX10_init_60 (by decide) (fun c_2 => ?_) (fun c_2 => ?_)
      · skip
        replace h := (if_pos c_2).symm.trans h
        refine W_cnt (c2 := kK cs1 - kK cs) (n2 := kM cs1 - kM cs) (by omega) (by omega) ?_
        exact B_122 cs1 h (by omega) (by omega) _ _ _ _ hP hD hG (by omega) hS (lv_sub hl [] rfl)
      · skip
        replace h := (if_neg c_2).symm.trans h
        refine lv_iload_n hx hb dX10_init_63 rfl (lv_at hl 2 rfl) ?_
        refine lv_aload_n hx hb dX10_init_64 rfl (lv_at hl 0 rfl) ?_
        replace h := ob h; obtain ⟨v_3, hv_3, h⟩ := h
        refine fg_X10_26 hx hb hts hown hK hP hv_3 dX10_init_65 ?_
        replace h := ob h; obtain ⟨v_4, hv_4, h⟩ := h
        refine alen2 hx hb hK hP rfl hv_4 dX10_init_68 ?_
        refine lv_icmp_ge (tgt := 122) hx hb dX10_init_69 (by decide) (fun c_5 => ?_) (fun c_5 => ?_)
        · skip
          replace h := (if_pos c_5).symm.trans h
          refine W_cnt (c2 := kK cs1 - kK cs) (n2 := kM cs1 - kM cs) (by omega) (by omega) ?_
          exact B_122 cs1 h (by omega) (by omega) _ _ _ _ hP hD hG (by omega) hS (lv_sub hl [] rfl)
        · skip
          replace h := (if_neg c_5).symm.trans h
          refine va_ldcS (own := RX10) (index := 29) (tx := soT 0) (q := K 0) hx hb hown (hZ.ref 0 (by decide)) dX10_init_72 ?_
          refine lv_iload hx hb dX10_init_74 (lv_at hl 3 rfl) ?_
          replace h := ob h; obtain ⟨v_6, hv_6, h⟩ := h
          refine strChr_X10 hx hb hml hts hown hK hP hD hS hG hA (by omega) (by omega) hZ (by decide) hv_6 hl.1 (Nat.le_of_ble_eq_true rfl) ⟨by show kK cs1 - kK cs + 0 ≤ kK cs9 - kK cs; omega, by show kM cs1 - kM cs + 0 ≤ kM cs9 - kM cs; omega⟩ (Nat.le_of_ble_eq_true rfl) (Nat.le_of_ble_eq_true rfl) dX10_init_76 (fun H locs hP hD hG hgz hS => ?_)
          refine lv_istore (lv' := [(5, .int v_6), (0, .ref (b + u0)), (1, .long u1), (3, .int u3), (4, .int u4)]) hx hb dX10_init_79 hl (by decide) rfl (fun ls hl => ?_)
          refine lv_iload hx hb dX10_init_81 (lv_at hl 0 rfl) ?_
          refine lv_bipush (v := 32) hx hb dX10_init_83 (by decide) ?_
          refine lv_icmp_ne (tgt := 103) hx hb dX10_init_85 (by decide) (fun c_7 => ?_) (fun c_7 => ?_)
          · skip
            replace h := (if_neg c_7).symm.trans h
            refine lv_lload_n hx hb dX10_init_103 rfl (lv_at hl 2 rfl) ?_
            refine lv_ldc2 hx hb hown (hts _ (List.mem_cons_of_mem _ kw_311)) dX10_init_104 ?_
            refine lv_lmul hx hb dX10_init_107 ?_
            refine lv_iload hx hb dX10_init_108 (lv_at hl 0 rfl) ?_
            replace h := ob h; obtain ⟨v_8, hv_8, h⟩ := h
            refine cbsI (As := [.int v_6]) hx hb hml hts hown hK hP hD hS hG hA (by omega) (by omega) hZ (sc_X10_letterCode l dC dI cB cI cJ cZ cS cO b K V fz F cs1 v_6 v_8 hv_8) (cw_X10_X10_letterCode hts (fr := 1) (Nat.le_of_ble_eq_true rfl) (Nat.le_of_ble_eq_true rfl)) rfl hl.1 (Nat.le_of_ble_eq_true rfl) ⟨by show kK cs1 - kK cs ≤ kK cs9 - kK cs; omega, by show kM cs1 - kM cs ≤ kM cs9 - kM cs; omega⟩ dX10_init_110 (fun H locs hP hD hG hgz hS => ?_)
            refine lv_i2l hx hb dX10_init_113 rfl ?_
            refine lv_ladd hx hb dX10_init_114 ?_
            refine lv_lstore_n (lv' := [(1, .long ((u1 * (37)) + ((v_8 : Int32).toInt64))), (5, .int v_6), (0, .ref (b + u0)), (3, .int u3), (4, .int u4)]) hx hb dX10_init_115 rfl hl (by decide) rfl (fun ls hl => ?_)
            refine W_cnt (c2 := kK cs1 - kK cs) (n2 := kM cs1 - kM cs) (by omega) (by omega) ?_
            exact B_116 cs1 u0 ((u1 * (37)) + ((v_8 : Int32).toInt64)) u3 u4 h (by omega) (by omega) _ _ _ _ hP hD hG (by omega) hS (lv_sub hl [2, 0, 3, 4] rfl)
          · skip
            replace h := (if_pos c_7).symm.trans h
            refine lv_aload_n hx hb dX10_init_88 rfl (lv_at hl 1 rfl) ?_
            replace h := ob h; obtain ⟨v_9, hv_9, h⟩ := h
            refine fg_X10_26 hx hb hts hown hK hP hv_9 dX10_init_89 ?_
            refine lv_iload_n hx hb dX10_init_92 rfl (lv_at hl 3 rfl) ?_
            refine lv_lload_n hx hb dX10_init_93 rfl (lv_at hl 2 rfl) ?_
            replace h := ob h; obtain ⟨cs_10, hv_10, h⟩ := h
            obtain ⟨qk_10, qm_10⟩ := wB_k hv_10
            refine ast2 hx hb hK hP hD hS rfl hv_10 dX10_init_94 (fun H locs hP hD hS => ?_)
            refine lv_iinc (v := u3 + 1) (lv' := [(3, .int (u3 + 1)), (5, .int v_6), (0, .ref (b + u0)), (1, .long u1), (4, .int u4)]) hx hb dX10_init_95 hl (k := 3) rfl rfl (by decide) rfl (fun ls hl => ?_)
            refine lv_lconst (v := 0) hx hb dX10_init_98 (by decide) ?_
            refine lv_lstore_n (lv' := [(1, .long 0), (3, .int (u3 + 1)), (5, .int v_6), (0, .ref (b + u0)), (4, .int u4)]) hx hb dX10_init_99 rfl hl (by decide) rfl (fun ls hl => ?_)
            refine lv_goto (tgt := 116) hx hb dX10_init_100 (by decide) ?_
            refine W_cnt (c2 := kK cs_10 - kK cs) (n2 := kM cs_10 - kM cs) (by omega) (by omega) ?_
            exact B_116 cs_10 u0 0 (u3 + 1) u4 h (by omega) (by omega) _ _ _ _ hP hD hG (by omega) hS (lv_sub hl [3, 0, 1, 4] rfl)
  have B_46 : ∀ (cs1 : CS) (u0 : Nat), c_X10_init_b46 F cs1 u0 = some cs9 → kK cs ≤ kK cs1 → kM cs ≤ kM cs1 → ∀ (Gh H : Heap) (locs : List Loc) (ls : Array Slot), va_P (dC, dI) vwCl (cW cB cI cJ cZ cS cO b cs1) H → va_D A (cW cB cI cJ cZ cS cO b cs1) → va_S A s.heap Gh [] → Gh.size = b + kK cs1 → va_S A Gh H locs → lv_has ls 6 [(0, .ref (b + u0))] → W p l e (headSpec (wsOf yX10_init cX10_init 6 none) ({ frames := 7, cells := kK cs9 - kK cs, slots := kM cs9 - kM cs, locals := 60 * (7) } : Room)).room s m ([.ref (b + x0)] : List Value).toArray below meth c H locs (kK cs1 - kK cs) (kM cs1 - kM cs) (MQ below (va_Qv (fun (_ : Unit) => True) (fun _ t_ => va_P (dC, dI) vwCl (cW cB cI cJ cZ cS cO b cs9) t_.heap ∧ va_D A (cW cB cI cJ cZ cS cO b cs9) ∧ b + kK cs9 ≤ t_.heap.size) A) ([.ref (b + x0)] : List Value).toArray s (kK cs9 - kK cs) (kM cs9 - kM cs) A) (F0 m 46 ls []) := by
    intro cs1 u0 h hmk hmm Gh H locs ls hP hD hG hgz hS hl
    obtain ⟨kb9, mb9⟩ := mo_c_X10_init_b46 F cs1 u0 cs9 h
    unfold c_X10_init_b46 at h
    refine lv_lconst (v := 0) hx hb dX10_init_46 (by decide) ?_
    refine lv_lstore_n (lv' := [(1, .long 0), (0, .ref (b + u0))]) hx hb dX10_init_47 rfl hl (by decide) rfl (fun ls hl => ?_)
    refine lv_iconst (v := 0) hx hb dX10_init_48 (by decide) ?_
    refine lv_istore_n (lv' := [(3, .int 0), (1, .long 0), (0, .ref (b + u0))]) hx hb dX10_init_49 rfl hl (by decide) rfl (fun ls hl => ?_)
    refine lv_iconst (v := 0) hx hb dX10_init_50 (by decide) ?_
    refine lv_istore (lv' := [(4, .int 0), (3, .int 0), (1, .long 0), (0, .ref (b + u0))]) hx hb dX10_init_51 hl (by decide) rfl (fun ls hl => ?_)
    refine W_cnt (c2 := kK cs1 - kK cs) (n2 := kM cs1 - kM cs) (by omega) (by omega) ?_
    exact L_53 F cs1 u0 0 0 0 h (by omega) (by omega) _ _ _ _ hP hD hG (by omega) hS (lv_sub hl [3, 2, 1, 0] rfl)
  have B_38 : ∀ (cs1 : CS) (u0 : Nat), c_X10_init_b38 F cs1 u0 = some cs9 → kK cs ≤ kK cs1 → kM cs ≤ kM cs1 → ∀ (Gh H : Heap) (locs : List Loc) (ls : Array Slot), va_P (dC, dI) vwCl (cW cB cI cJ cZ cS cO b cs1) H → va_D A (cW cB cI cJ cZ cS cO b cs1) → va_S A s.heap Gh [] → Gh.size = b + kK cs1 → va_S A Gh H locs → lv_has ls 6 [(0, .ref (b + u0))] → W p l e (headSpec (wsOf yX10_init cX10_init 6 none) ({ frames := 7, cells := kK cs9 - kK cs, slots := kM cs9 - kM cs, locals := 60 * (7) } : Room)).room s m ([.ref (b + x0)] : List Value).toArray below meth c H locs (kK cs1 - kK cs) (kM cs1 - kM cs) (MQ below (va_Qv (fun (_ : Unit) => True) (fun _ t_ => va_P (dC, dI) vwCl (cW cB cI cJ cZ cS cO b cs9) t_.heap ∧ va_D A (cW cB cI cJ cZ cS cO b cs9) ∧ b + kK cs9 ≤ t_.heap.size) A) ([.ref (b + x0)] : List Value).toArray s (kK cs9 - kK cs) (kM cs9 - kM cs) A) (F0 m 38 ls []) := by
    intro cs1 u0 h hmk hmm Gh H locs ls hP hD hG hgz hS hl
    obtain ⟨kb9, mb9⟩ := mo_c_X10_init_b38 F cs1 u0 cs9 h
    unfold c_X10_init_b38 at h
    refine lv_aload_n hx hb dX10_init_38 rfl (lv_at hl 0 rfl) ?_
    refine lv_bipush (v := 39) hx hb dX10_init_39 (by decide) ?_
    replace h := ob h; obtain ⟨cs_11, hv_11, h⟩ := h
    obtain ⟨qk_11, qm_11⟩ := nwA_k hv_11
    obtain ⟨k9_11, m9_11⟩ := mo_c_X10_init_b46 F cs_11 u0 cs9 h
    refine nar_X10_26 hx hb hts hown hK hP hD hS hG hA (by omega) (by omega) hin ⟨by show kK cs1 - kK cs + 1 ≤ kK cs9 - kK cs; omega, by show kM cs1 - kM cs + (39 : Int32).toNatClampNeg ≤ kM cs9 - kM cs; omega⟩ hv_11 dX10_init_41 dX10_init_43 (fun H locs hP hD hG hgz hS => ?_)
    refine W_cnt (c2 := kK cs_11 - kK cs) (n2 := kM cs_11 - kM cs) (by omega) (by omega) ?_
    exact B_46 cs_11 u0 h (by omega) (by omega) _ _ _ _ hP hD hG (by omega) hS (lv_sub hl [0] rfl)
  have B_31 : ∀ (cs1 : CS) (u0 : Nat), c_X10_init_b31 F cs1 u0 = some cs9 → kK cs ≤ kK cs1 → kM cs ≤ kM cs1 → ∀ (Gh H : Heap) (locs : List Loc) (ls : Array Slot), va_P (dC, dI) vwCl (cW cB cI cJ cZ cS cO b cs1) H → va_D A (cW cB cI cJ cZ cS cO b cs1) → va_S A s.heap Gh [] → Gh.size = b + kK cs1 → va_S A Gh H locs → lv_has ls 6 [(0, .ref (b + u0))] → W p l e (headSpec (wsOf yX10_init cX10_init 6 none) ({ frames := 7, cells := kK cs9 - kK cs, slots := kM cs9 - kM cs, locals := 60 * (7) } : Room)).room s m ([.ref (b + x0)] : List Value).toArray below meth c H locs (kK cs1 - kK cs) (kM cs1 - kM cs) (MQ below (va_Qv (fun (_ : Unit) => True) (fun _ t_ => va_P (dC, dI) vwCl (cW cB cI cJ cZ cS cO b cs9) t_.heap ∧ va_D A (cW cB cI cJ cZ cS cO b cs9) ∧ b + kK cs9 ≤ t_.heap.size) A) ([.ref (b + x0)] : List Value).toArray s (kK cs9 - kK cs) (kM cs9 - kM cs) A) (F0 m 31 ls []) := by
    intro cs1 u0 h hmk hmm Gh H locs ls hP hD hG hgz hS hl
    obtain ⟨kb9, mb9⟩ := mo_c_X10_init_b31 F cs1 u0 cs9 h
    unfold c_X10_init_b31 at h
    refine lv_aload_n hx hb dX10_init_31 rfl (lv_at hl 0 rfl) ?_
    refine lv_iconst (v := 0) hx hb dX10_init_32 (by decide) ?_
    replace h := ob h; obtain ⟨cs_12, hv_12, h⟩ := h
    obtain ⟨qk_12, qm_12⟩ := nwA_k hv_12
    obtain ⟨k9_12, m9_12⟩ := mo_c_X10_init_b38 F cs_12 u0 cs9 h
    refine nar_X10_22 hx hb hts hown hK hP hD hS hG hA (by omega) (by omega) ⟨by show kK cs1 - kK cs + 1 ≤ kK cs9 - kK cs; omega, by show kM cs1 - kM cs + (0 : Int32).toNatClampNeg ≤ kM cs9 - kM cs; omega⟩ hv_12 dX10_init_33 dX10_init_35 (fun H locs hP hD hG hgz hS => ?_)
    refine W_cnt (c2 := kK cs_12 - kK cs) (n2 := kM cs_12 - kM cs) (by omega) (by omega) ?_
    exact B_38 cs_12 u0 h (by omega) (by omega) _ _ _ _ hP hD hG (by omega) hS (lv_sub hl [0] rfl)
  have B_22 : ∀ (cs1 : CS) (u0 : Nat), c_X10_init_b22 F cs1 u0 = some cs9 → kK cs ≤ kK cs1 → kM cs ≤ kM cs1 → ∀ (Gh H : Heap) (locs : List Loc) (ls : Array Slot), va_P (dC, dI) vwCl (cW cB cI cJ cZ cS cO b cs1) H → va_D A (cW cB cI cJ cZ cS cO b cs1) → va_S A s.heap Gh [] → Gh.size = b + kK cs1 → va_S A Gh H locs → lv_has ls 6 [(0, .ref (b + u0))] → W p l e (headSpec (wsOf yX10_init cX10_init 6 none) ({ frames := 7, cells := kK cs9 - kK cs, slots := kM cs9 - kM cs, locals := 60 * (7) } : Room)).room s m ([.ref (b + x0)] : List Value).toArray below meth c H locs (kK cs1 - kK cs) (kM cs1 - kM cs) (MQ below (va_Qv (fun (_ : Unit) => True) (fun _ t_ => va_P (dC, dI) vwCl (cW cB cI cJ cZ cS cO b cs9) t_.heap ∧ va_D A (cW cB cI cJ cZ cS cO b cs9) ∧ b + kK cs9 ≤ t_.heap.size) A) ([.ref (b + x0)] : List Value).toArray s (kK cs9 - kK cs) (kM cs9 - kM cs) A) (F0 m 22 ls []) := by
    intro cs1 u0 h hmk hmm Gh H locs ls hP hD hG hgz hS hl
    obtain ⟨kb9, mb9⟩ := mo_c_X10_init_b22 F cs1 u0 cs9 h
    unfold c_X10_init_b22 at h
    refine lv_aload_n hx hb dX10_init_22 rfl (lv_at hl 0 rfl) ?_
    refine lv_sipush (v := 2001) hx hb dX10_init_23 (by decide) ?_
    replace h := ob h; obtain ⟨cs_13, hv_13, h⟩ := h
    obtain ⟨qk_13, qm_13⟩ := nwA_k hv_13
    obtain ⟨k9_13, m9_13⟩ := mo_c_X10_init_b31 F cs_13 u0 cs9 h
    refine nar_X10_18 hx hb hts hown hK hP hD hS hG hA (by omega) (by omega) hin ⟨by show kK cs1 - kK cs + 1 ≤ kK cs9 - kK cs; omega, by show kM cs1 - kM cs + (2001 : Int32).toNatClampNeg ≤ kM cs9 - kM cs; omega⟩ hv_13 dX10_init_26 dX10_init_28 (fun H locs hP hD hG hgz hS => ?_)
    refine W_cnt (c2 := kK cs_13 - kK cs) (n2 := kM cs_13 - kM cs) (by omega) (by omega) ?_
    exact B_31 cs_13 u0 h (by omega) (by omega) _ _ _ _ hP hD hG (by omega) hS (lv_sub hl [0] rfl)
  have B_13 : ∀ (cs1 : CS) (u0 : Nat), c_X10_init_b13 F cs1 u0 = some cs9 → kK cs ≤ kK cs1 → kM cs ≤ kM cs1 → ∀ (Gh H : Heap) (locs : List Loc) (ls : Array Slot), va_P (dC, dI) vwCl (cW cB cI cJ cZ cS cO b cs1) H → va_D A (cW cB cI cJ cZ cS cO b cs1) → va_S A s.heap Gh [] → Gh.size = b + kK cs1 → va_S A Gh H locs → lv_has ls 6 [(0, .ref (b + u0))] → W p l e (headSpec (wsOf yX10_init cX10_init 6 none) ({ frames := 7, cells := kK cs9 - kK cs, slots := kM cs9 - kM cs, locals := 60 * (7) } : Room)).room s m ([.ref (b + x0)] : List Value).toArray below meth c H locs (kK cs1 - kK cs) (kM cs1 - kM cs) (MQ below (va_Qv (fun (_ : Unit) => True) (fun _ t_ => va_P (dC, dI) vwCl (cW cB cI cJ cZ cS cO b cs9) t_.heap ∧ va_D A (cW cB cI cJ cZ cS cO b cs9) ∧ b + kK cs9 ≤ t_.heap.size) A) ([.ref (b + x0)] : List Value).toArray s (kK cs9 - kK cs) (kM cs9 - kM cs) A) (F0 m 13 ls []) := by
    intro cs1 u0 h hmk hmm Gh H locs ls hP hD hG hgz hS hl
    obtain ⟨kb9, mb9⟩ := mo_c_X10_init_b13 F cs1 u0 cs9 h
    unfold c_X10_init_b13 at h
    refine lv_aload_n hx hb dX10_init_13 rfl (lv_at hl 0 rfl) ?_
    refine lv_sipush (v := 2001) hx hb dX10_init_14 (by decide) ?_
    replace h := ob h; obtain ⟨cs_14, hv_14, h⟩ := h
    obtain ⟨qk_14, qm_14⟩ := nwA_k hv_14
    obtain ⟨k9_14, m9_14⟩ := mo_c_X10_init_b22 F cs_14 u0 cs9 h
    refine nar_X10_15 hx hb hts hown hK hP hD hS hG hA (by omega) (by omega) hin ⟨by show kK cs1 - kK cs + 1 ≤ kK cs9 - kK cs; omega, by show kM cs1 - kM cs + (2001 : Int32).toNatClampNeg ≤ kM cs9 - kM cs; omega⟩ hv_14 dX10_init_17 dX10_init_19 (fun H locs hP hD hG hgz hS => ?_)
    refine W_cnt (c2 := kK cs_14 - kK cs) (n2 := kM cs_14 - kM cs) (by omega) (by omega) ?_
    exact B_22 cs_14 u0 h (by omega) (by omega) _ _ _ _ hP hD hG (by omega) hS (lv_sub hl [0] rfl)
  have h := hf
  unfold c_X10_init at h
  refine W_cnt (c2 := kK cs - kK cs) (n2 := kM cs - kM cs) (by omega) (by omega) ?_
  refine lv_aload_n hx hb dX10_init_0 rfl (lv_at hl 0 rfl) ?_
  refine W.objInit hx hb hown (hts _ (List.mem_cons_of_mem _ kw_261)) (hts _ (List.mem_cons_of_mem _ kw_214)) (hts _ (List.mem_cons_of_mem _ kc_objectInit)) rfl (by rw [hml]; exact hl.1) rfl dX10_init_1 (Nat.le_of_ble_eq_true rfl) (Nat.le_of_ble_eq_true rfl) ?_
  refine W.eq (g2 := F0 m 4 ls []) rfl ?_
  refine lv_aload_n hx hb dX10_init_4 rfl (lv_at hl 0 rfl) ?_
  refine lv_sipush (v := 2001) hx hb dX10_init_5 (by decide) ?_
  replace h := ob h; obtain ⟨cs_15, hv_15, h⟩ := h
  obtain ⟨qk_15, qm_15⟩ := nwA_k hv_15
  obtain ⟨k9_15, m9_15⟩ := mo_c_X10_init_b13 F cs_15 x0 cs9 h
  refine nar_X10_9 hx hb hts hown hK hP hD hS hG hA (by omega) (by omega) hin ⟨by show kK cs - kK cs + 1 ≤ kK cs9 - kK cs; omega, by show kM cs - kM cs + (2001 : Int32).toNatClampNeg ≤ kM cs9 - kM cs; omega⟩ hv_15 dX10_init_8 dX10_init_10 (fun H locs hP hD hG hgz hS => ?_)
  refine W_cnt (c2 := kK cs_15 - kK cs) (n2 := kM cs_15 - kM cs) (by omega) (by omega) ?_
  exact B_13 cs_15 x0 h (by omega) (by omega) _ _ _ _ hP hD hG (by omega) hS (lv_sub hl [0] rfl)
