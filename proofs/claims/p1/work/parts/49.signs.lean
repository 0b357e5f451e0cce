def tcA : Nat → Int64 × Nat × (Nat → Int64)
  | 0 => (0, 0, fun _ => 0)
  | i + 1 => match tcA i with | (w, c, f) => if soC 0 i = 32 then (0, c + 1, vp_updL f c w) else (w * 37 + (lcd (soC 0 i)).toInt64, c, f)
def tcN : Nat → Nat | 0 => 0 | i + 1 => if soC 0 i = 32 then tcN i + 1 else tcN i
theorem tcA_n : ∀ i, (tcA i).2.1 = tcN i
  | 0 => rfl
  | i + 1 => by
    have ih := tcA_n i
    rw [tcA, tcN]
    generalize tcA i = z at ih ⊢
    obtain ⟨w, c, f⟩ := z
    show (if soC 0 i = 32 then (0, c + 1, vp_updL f c w) else (w * 37 + (lcd (soC 0 i)).toInt64, c, f)).2.1 = _
    by_cases h : soC 0 i = 32
    · rw [if_pos h, if_pos h]; show c + 1 = _; rw [show c = tcN i from ih]
    · rw [if_neg h, if_neg h]; exact ih
theorem tcA_y {i c : Nat} {w : Int64} {f : Nat → Int64} (h : (w, c, f) = tcA i) (hc : soC 0 i = 32) : (0, c + 1, vp_updL f c w) = tcA (i + 1) := by
  rw [tcA, ← h]; exact (if_pos hc).symm
theorem tcA_z {i c : Nat} {w : Int64} {f : Nat → Int64} (h : (w, c, f) = tcA i) (hc : ¬ soC 0 i = 32) : (w * 37 + (lcd (soC 0 i)).toInt64, c, f) = tcA (i + 1) := by
  rw [tcA, ← h]; exact (if_neg hc).symm
theorem so_len0 : (soB 0).length = 203 := by decide +kernel
theorem tcN_lt : ∀ i, i < 203 → tcN i < 39 := by decide +kernel
theorem tcN_le : ∀ i, i < 204 → tcN i ≤ 39 := by decide +kernel
def sgN (n : Nat) : Int32 := if 0 ≤ ixN 1 n 12 0 then 41 + ixN 1 n 12 0 else 57
def sgK (x : Int32) : Int32 := if x < 0 then 57 else sgN x.toNatClampNeg
def sgE (x y : Int32) (k : Nat) : Nat := if lsI x y = x then k + 1 else k + 2
theorem fb_n {x : Int32} (h : fits .byte (.int x) = true) (h0 : ¬ x < 0) : ∃ n : Nat, n < 128 ∧ x = nI n := by
  obtain ⟨n, hn, rfl⟩ := nI_of h0
  refine ⟨n, ?_, rfl⟩
  have h4 : nI n ≤ 127 := by
    have h5 : -128 ≤ nI n ∧ nI n ≤ 127 := by simpa [fits] using h
    exact h5.2
  rcases Nat.lt_or_ge n 128 with q | q
  · exact q
  · exact absurd h4 (Int32.not_le.mpr (nI_lt (a := 127) (b := n) (by omega) hn))
theorem dX10_init_0 : decode cX10_init 0 = .ok (.aload_n 0, 1) := by decide +kernel
theorem dX10_init_1 : decode cX10_init 1 = .ok (.invokespecial 3, 3) := by decide +kernel
theorem dX10_init_4 : decode cX10_init 4 = .ok (.aload_n 0, 1) := by decide +kernel
theorem dX10_init_5 : decode cX10_init 5 = .ok (.sipush 2001, 3) := by decide +kernel
theorem dX10_init_8 : decode cX10_init 8 = .ok (.newarray .int, 2) := by decide +kernel
theorem dX10_init_10 : decode cX10_init 10 = .ok (.putfield 9, 3) := by decide +kernel
theorem dX10_init_13 : decode cX10_init 13 = .ok (.aload_n 0, 1) := by decide +kernel
theorem dX10_init_14 : decode cX10_init 14 = .ok (.sipush 2001, 3) := by decide +kernel
theorem dX10_init_17 : decode cX10_init 17 = .ok (.newarray .int, 2) := by decide +kernel
theorem dX10_init_19 : decode cX10_init 19 = .ok (.putfield 15, 3) := by decide +kernel
theorem dX10_init_22 : decode cX10_init 22 = .ok (.aload_n 0, 1) := by decide +kernel
theorem dX10_init_23 : decode cX10_init 23 = .ok (.sipush 2001, 3) := by decide +kernel
theorem dX10_init_26 : decode cX10_init 26 = .ok (.newarray .long, 2) := by decide +kernel
theorem dX10_init_28 : decode cX10_init 28 = .ok (.putfield 18, 3) := by decide +kernel
theorem dX10_init_31 : decode cX10_init 31 = .ok (.aload_n 0, 1) := by decide +kernel
theorem dX10_init_32 : decode cX10_init 32 = .ok (.iconst 0, 1) := by decide +kernel
theorem dX10_init_33 : decode cX10_init 33 = .ok (.newarray .byte, 2) := by decide +kernel
theorem dX10_init_35 : decode cX10_init 35 = .ok (.putfield 22, 3) := by decide +kernel
theorem dX10_init_38 : decode cX10_init 38 = .ok (.aload_n 0, 1) := by decide +kernel
theorem dX10_init_39 : decode cX10_init 39 = .ok (.bipush 39, 2) := by decide +kernel
theorem dX10_init_41 : decode cX10_init 41 = .ok (.newarray .long, 2) := by decide +kernel
theorem dX10_init_43 : decode cX10_init 43 = .ok (.putfield 26, 3) := by decide +kernel
theorem dX10_init_46 : decode cX10_init 46 = .ok (.lconst 0, 1) := by decide +kernel
theorem dX10_init_47 : decode cX10_init 47 = .ok (.lstore_n 1, 1) := by decide +kernel
theorem dX10_init_48 : decode cX10_init 48 = .ok (.iconst 0, 1) := by decide +kernel
theorem dX10_init_49 : decode cX10_init 49 = .ok (.istore_n 3, 1) := by decide +kernel
theorem dX10_init_50 : decode cX10_init 50 = .ok (.iconst 0, 1) := by decide +kernel
theorem dX10_init_51 : decode cX10_init 51 = .ok (.istore 4, 2) := by decide +kernel
theorem dX10_init_53 : decode cX10_init 53 = .ok (.iload 4, 2) := by decide +kernel
theorem dX10_init_55 : decode cX10_init 55 = .ok (.ldc 29, 2) := by decide +kernel
theorem dX10_init_57 : decode cX10_init 57 = .ok (.invokevirtual 31, 3) := by decide +kernel
theorem dX10_init_60 : decode cX10_init 60 = .ok (.if_icmp .ge 62, 3) := by decide +kernel
theorem dX10_init_63 : decode cX10_init 63 = .ok (.iload_n 3, 1) := by decide +kernel
theorem dX10_init_64 : decode cX10_init 64 = .ok (.aload_n 0, 1) := by decide +kernel
theorem dX10_init_65 : decode cX10_init 65 = .ok (.getfield 26, 3) := by decide +kernel
theorem dX10_init_68 : decode cX10_init 68 = .ok (.arraylength, 1) := by decide +kernel
theorem dX10_init_69 : decode cX10_init 69 = .ok (.if_icmp .ge 53, 3) := by decide +kernel
theorem dX10_init_72 : decode cX10_init 72 = .ok (.ldc 29, 2) := by decide +kernel
theorem dX10_init_74 : decode cX10_init 74 = .ok (.iload 4, 2) := by decide +kernel
theorem dX10_init_76 : decode cX10_init 76 = .ok (.invokevirtual 37, 3) := by decide +kernel
theorem dX10_init_79 : decode cX10_init 79 = .ok (.istore 5, 2) := by decide +kernel
theorem dX10_init_81 : decode cX10_init 81 = .ok (.iload 5, 2) := by decide +kernel
theorem dX10_init_83 : decode cX10_init 83 = .ok (.bipush 32, 2) := by decide +kernel
theorem dX10_init_85 : decode cX10_init 85 = .ok (.if_icmp .ne 18, 3) := by decide +kernel
theorem dX10_init_88 : decode cX10_init 88 = .ok (.aload_n 0, 1) := by decide +kernel
theorem dX10_init_89 : decode cX10_init 89 = .ok (.getfield 26, 3) := by decide +kernel
theorem dX10_init_92 : decode cX10_init 92 = .ok (.iload_n 3, 1) := by decide +kernel
theorem dX10_init_93 : decode cX10_init 93 = .ok (.lload_n 1, 1) := by decide +kernel
theorem dX10_init_94 : decode cX10_init 94 = .ok (.lastore, 1) := by decide +kernel
theorem dX10_init_95 : decode cX10_init 95 = .ok (.iinc 3 1, 3) := by decide +kernel
theorem dX10_init_98 : decode cX10_init 98 = .ok (.lconst 0, 1) := by decide +kernel
theorem dX10_init_99 : decode cX10_init 99 = .ok (.lstore_n 1, 1) := by decide +kernel
theorem dX10_init_100 : decode cX10_init 100 = .ok (.goto 16, 3) := by decide +kernel
theorem dX10_init_103 : decode cX10_init 103 = .ok (.lload_n 1, 1) := by decide +kernel
theorem dX10_init_104 : decode cX10_init 104 = .ok (.ldc2_w 41, 3) := by decide +kernel
theorem dX10_init_107 : decode cX10_init 107 = .ok (.lmul, 1) := by decide +kernel
theorem dX10_init_108 : decode cX10_init 108 = .ok (.iload 5, 2) := by decide +kernel
theorem dX10_init_110 : decode cX10_init 110 = .ok (.invokestatic 43, 3) := by decide +kernel
theorem dX10_init_113 : decode cX10_init 113 = .ok (.i2l, 1) := by decide +kernel
theorem dX10_init_114 : decode cX10_init 114 = .ok (.ladd, 1) := by decide +kernel
theorem dX10_init_115 : decode cX10_init 115 = .ok (.lstore_n 1, 1) := by decide +kernel
theorem dX10_init_116 : decode cX10_init 116 = .ok (.iinc 4 1, 3) := by decide +kernel
theorem dX10_init_119 : decode cX10_init 119 = .ok (.goto (-66), 3) := by decide +kernel
theorem dX10_init_122 : decode cX10_init 122 = .ok (.return_, 1) := by decide +kernel
abbrev cs_t_X10_init (cB cI cJ cZ : ClassId) (h0 : Nat) (K V : Nat → Nat) (fz : Value) : va_W := [(h0, .inr (11, [.null, .null, .null, .null, .int 0, .int 0, .null]))]
abbrev pc_t_X10_init (dC : Nat → ClassId) (dI : Nat → Nat → Nat) (sz : Nat) (cB cI cJ cZ : ClassId) (h0 : Nat) (K V : Nat → Nat) (fz : Value) : Array Value → State → Prop := va_Pc [.ref h0] (fun U => U.heap.size = sz ∧ va_P (dC, dI) vwCl [(h0, .inr (11, [.null, .null, .null, .null, .int 0, .int 0, .null]))] U.heap ∧ va_K (dC, dI) vwCl [(cB, .byte), (cI, .int), (cJ, .long), (cZ, .boolean)] U ∧ va_D (fun _ => True) [(h0, .inr (11, [.null, .null, .null, .null, .int 0, .int 0, .null]))] ∧ zE K V fz (va_A (cs_t_X10_init cB cI cJ cZ h0 K V fz) sz) U)
abbrev qc_t_X10_init (dC : Nat → ClassId) (dI : Nat → Nat → Nat) (cB cI cJ cZ : ClassId) (h0 : Nat) (K V : Nat → Nat) (fz : Value) (A : Nat → Prop) : Array Value → State → Outcome → State → Prop := va_Qv (fun (u : Unit) => match u with | _ => True) (fun (u : Unit) t_ => match u with | _ => ∃ (q1 q2 q3 q4 q5 : Nat), va_P (dC, dI) vwCl [(h0, .inr (11, [.ref q1, .ref q2, .ref q3, .ref q4, .int 0, .int 0, .ref q5])), (q1, .inl (cI, 2001, .inl (fun _ => 0))), (q2, .inl (cI, 2001, .inl (fun _ => 0))), (q3, .inl (cJ, 2001, .inr (.inl (fun _ => 0)))), (q4, .inl (cB, 0, .inl (fun _ => 0))), (q5, .inl (cJ, 39, .inr (.inl ((tcA 203).2.2))))] t_.heap ∧ va_K (dC, dI) vwCl [(cB, .byte), (cI, .int), (cJ, .long), (cZ, .boolean)] t_ ∧ va_D A [(h0, .inr (11, [.ref q1, .ref q2, .ref q3, .ref q4, .int 0, .int 0, .ref q5])), (q1, .inl (cI, 2001, .inl (fun _ => 0))), (q2, .inl (cI, 2001, .inl (fun _ => 0))), (q3, .inl (cJ, 2001, .inr (.inl (fun _ => 0)))), (q4, .inl (cB, 0, .inl (fun _ => 0))), (q5, .inl (cJ, 39, .inr (.inl ((tcA 203).2.2))))]) A
set_option maxHeartbeats 4000000 in
set_option maxRecDepth 100000 in
theorem t_X10_init (l : Launch) (dC : Nat → ClassId) (dI : Nat → Nat → Nat) (sz : Nat) (cB cI cJ cZ : ClassId) (h0 : Nat) (K V : Nat → Nat) (fz : Value)  : Met l yX10_init (wsOf yX10_init cX10_init 6 none) ({ frames := 5, cells := 5, slots := 6042, locals := 300 }) (pc_t_X10_init dC dI sz cB cI cJ cZ h0 K V fz) (qc_t_X10_init dC dI cB cI cJ cZ h0 K V fz (va_A (cs_t_X10_init cB cI cJ cZ h0 K V fz) sz)) 5 6042 (va_A (cs_t_X10_init cB cI cJ cZ h0 K V fz) sz) := by
  refine Met.ofW (cc := cX10_init) (maxL := 6) (ret := none) (by decide) rfl ?_
  intro p e s m args below meth c s₁ B hml hv
  obtain ⟨rfl, hsz, hP, hK, hD0, hZ⟩ := hv
  have hx := B.exec
  have hb := B.bytes
  have hr := B.returns
  have hts := atoms_spec (ws := (wsOf yX10_init cX10_init 6 none)) B.pre
  have hown : s.vm.findClass RX10 = some m.cls := findClass_of_methodNamed B.named
  have hlocks := B.notSynchronized
  have hin : meth.name = "<init>" := (name_of_methodNamed B.named B.method).1
  subst hsz
  have hD := hD0.self (sz := s.heap.size)
  generalize hAe : va_A (cs_t_X10_init cB cI cJ cZ h0 K V fz) s.heap.size = A at hD hZ ⊢
  have hA : ∀ q : Nat, s.heap.size ≤ q → A q := fun q h => by rw [← hAe]; exact Or.inr h
  have hS : va_S A s.heap s.heap [] := va_S.rf
  have hP : va_P (dC, dI) vwCl [(h0, .inr (11, [.null, .null, .null, .null, .int 0, .int 0, .null]))] s.heap := hP
  have hl := lv_entry ([.ref h0]) (n := 6) (Nat.le_of_ble_eq_true rfl)
  rw [lg_entry_eq]
  generalize (lg_sl ([.ref h0]) ++ List.replicate (6 - (lg_sl ([.ref h0])).length) Slot.unset).toArray = ls at hl ⊢
  have hl : lv_has ls 6 [(0, .ref h0)] := hl
  refine lv_aload_n hx hb dX10_init_0 rfl (lv_at hl 0 rfl) ?_
  refine W.objInit hx hb hown (hts _ (List.mem_cons_of_mem _ kw_261)) (hts _ (List.mem_cons_of_mem _ kw_214)) (hts _ (List.mem_cons_of_mem _ kc_objectInit)) rfl (by rw [hml]; exact hl.1) rfl dX10_init_1 (Nat.le_of_ble_eq_true rfl) (Nat.le_of_ble_eq_true rfl) ?_
  refine W.eq (g2 := F0 m 4 ls []) rfl ?_
  refine lv_aload_n hx hb dX10_init_4 rfl (lv_at hl 0 rfl) ?_
  refine lv_sipush (v := 2001) hx hb dX10_init_5 (by decide) ?_
  refine va_newa (atype := .int) (ty := .int) (a0 := (2001, .inl (fun _ => 0))) hx hb (hts _ (List.mem_cons_of_mem _ kn_I)) rfl hK hP hD hS hA (n := 2001) (N' := 2001) (fun _ => rfl) (by decide) (by decide) (by decide) (Nat.le_of_ble_eq_true rfl) (Nat.le_of_ble_eq_true rfl) dX10_init_8 (fun q1 cA1 H hK1 hP hD hS => ?_)
  rw [va_sameI hK1 4 1 rfl rfl] at hP hD
  have hP : va_P (dC, dI) vwCl [(h0, .inr (11, [.null, .null, .null, .null, .int 0, .int 0, .null])), (q1, .inl (cI, 2001, .inl (fun _ => 0)))] H := hP
  have hD : va_D A [(h0, .inr (11, [.null, .null, .null, .null, .int 0, .int 0, .null])), (q1, .inl (cI, 2001, .inl (fun _ => 0)))] := hD
  refine W.widen (k := 1) (n := 2001) (Nat.le_of_ble_eq_true rfl) (Nat.le_of_ble_eq_true rfl) ?_
  refine va_putF (D := (dC, dI)) (ci := 11) (v := .ref q1) (ty := .array .int) (C := RX10) (T := TX10) (N := 7) hx hb hts (fun w h => List.mem_cons_of_mem _ (uG_X10 w h)) tyX10 tyX10_ok nmX10 hown hK hP hD hS 0 rfl rfl 0 (by decide) (hts _ (List.mem_cons_of_mem _ kw_318)) (fun _ h9 => h9) rfl hin rfl (by decide +kernel) rfl rfl (Nat.le_of_ble_eq_true rfl) dX10_init_10 (fun H locs hP hD hS => ?_)
  have hP : va_P (dC, dI) vwCl [(h0, .inr (11, [.ref q1, .null, .null, .null, .int 0, .int 0, .null])), (q1, .inl (cI, 2001, .inl (fun _ => 0)))] H := hP
  have hD : va_D A [(h0, .inr (11, [.ref q1, .null, .null, .null, .int 0, .int 0, .null])), (q1, .inl (cI, 2001, .inl (fun _ => 0)))] := hD
  refine lv_aload_n hx hb dX10_init_13 rfl (lv_at hl 0 rfl) ?_
  refine lv_sipush (v := 2001) hx hb dX10_init_14 (by decide) ?_
  refine va_newa (atype := .int) (ty := .int) (a0 := (2001, .inl (fun _ => 0))) hx hb (hts _ (List.mem_cons_of_mem _ kn_I)) rfl hK hP hD hS hA (n := 2001) (N' := 2001) (fun _ => rfl) (by decide) (by decide) (by decide) (Nat.le_of_ble_eq_true rfl) (Nat.le_of_ble_eq_true rfl) dX10_init_17 (fun q2 cA2 H hK2 hP hD hS => ?_)
  rw [va_sameI hK2 4 1 rfl rfl] at hP hD
  have hP : va_P (dC, dI) vwCl [(h0, .inr (11, [.ref q1, .null, .null, .null, .int 0, .int 0, .null])), (q1, .inl (cI, 2001, .inl (fun _ => 0))), (q2, .inl (cI, 2001, .inl (fun _ => 0)))] H := hP
  have hD : va_D A [(h0, .inr (11, [.ref q1, .null, .null, .null, .int 0, .int 0, .null])), (q1, .inl (cI, 2001, .inl (fun _ => 0))), (q2, .inl (cI, 2001, .inl (fun _ => 0)))] := hD
  refine W.widen (k := 2) (n := 4002) (Nat.le_of_ble_eq_true rfl) (Nat.le_of_ble_eq_true rfl) ?_
  refine va_putF (D := (dC, dI)) (ci := 11) (v := .ref q2) (ty := .array .int) (C := RX10) (T := TX10) (N := 7) hx hb hts (fun w h => List.mem_cons_of_mem _ (uG_X10 w h)) tyX10 tyX10_ok nmX10 hown hK hP hD hS 0 rfl rfl 1 (by decide) (hts _ (List.mem_cons_of_mem _ kw_320)) (fun _ h9 => h9) rfl hin rfl (by decide +kernel) rfl rfl (Nat.le_of_ble_eq_true rfl) dX10_init_19 (fun H locs hP hD hS => ?_)
  have hP : va_P (dC, dI) vwCl [(h0, .inr (11, [.ref q1, .ref q2, .null, .null, .int 0, .int 0, .null])), (q1, .inl (cI, 2001, .inl (fun _ => 0))), (q2, .inl (cI, 2001, .inl (fun _ => 0)))] H := hP
  have hD : va_D A [(h0, .inr (11, [.ref q1, .ref q2, .null, .null, .int 0, .int 0, .null])), (q1, .inl (cI, 2001, .inl (fun _ => 0))), (q2, .inl (cI, 2001, .inl (fun _ => 0)))] := hD
  refine lv_aload_n hx hb dX10_init_22 rfl (lv_at hl 0 rfl) ?_
  refine lv_sipush (v := 2001) hx hb dX10_init_23 (by decide) ?_
  refine va_newa (atype := .long) (ty := .long) (a0 := (2001, .inr (.inl (fun _ => 0)))) hx hb (hts _ (List.mem_cons_of_mem _ kn_J)) rfl hK hP hD hS hA (n := 2001) (N' := 2001) (fun _ => rfl) (by decide) (by decide) (by decide) (Nat.le_of_ble_eq_true rfl) (Nat.le_of_ble_eq_true rfl) dX10_init_26 (fun q3 cA3 H hK3 hP hD hS => ?_)
  rw [va_sameJ hK3 4 2 rfl rfl] at hP hD
  have hP : va_P (dC, dI) vwCl [(h0, .inr (11, [.ref q1, .ref q2, .null, .null, .int 0, .int 0, .null])), (q1, .inl (cI, 2001, .inl (fun _ => 0))), (q2, .inl (cI, 2001, .inl (fun _ => 0))), (q3, .inl (cJ, 2001, .inr (.inl (fun _ => 0))))] H := hP
  have hD : va_D A [(h0, .inr (11, [.ref q1, .ref q2, .null, .null, .int 0, .int 0, .null])), (q1, .inl (cI, 2001, .inl (fun _ => 0))), (q2, .inl (cI, 2001, .inl (fun _ => 0))), (q3, .inl (cJ, 2001, .inr (.inl (fun _ => 0))))] := hD
  refine W.widen (k := 3) (n := 6003) (Nat.le_of_ble_eq_true rfl) (Nat.le_of_ble_eq_true rfl) ?_
  refine va_putF (D := (dC, dI)) (ci := 11) (v := .ref q3) (ty := .array .long) (C := RX10) (T := TX10) (N := 7) hx hb hts (fun w h => List.mem_cons_of_mem _ (uG_X10 w h)) tyX10 tyX10_ok nmX10 hown hK hP hD hS 0 rfl rfl 2 (by decide) (hts _ (List.mem_cons_of_mem _ kw_322)) (fun _ h9 => h9) rfl hin rfl (by decide +kernel) rfl rfl (Nat.le_of_ble_eq_true rfl) dX10_init_28 (fun H locs hP hD hS => ?_)
  have hP : va_P (dC, dI) vwCl [(h0, .inr (11, [.ref q1, .ref q2, .ref q3, .null, .int 0, .int 0, .null])), (q1, .inl (cI, 2001, .inl (fun _ => 0))), (q2, .inl (cI, 2001, .inl (fun _ => 0))), (q3, .inl (cJ, 2001, .inr (.inl (fun _ => 0))))] H := hP
  have hD : va_D A [(h0, .inr (11, [.ref q1, .ref q2, .ref q3, .null, .int 0, .int 0, .null])), (q1, .inl (cI, 2001, .inl (fun _ => 0))), (q2, .inl (cI, 2001, .inl (fun _ => 0))), (q3, .inl (cJ, 2001, .inr (.inl (fun _ => 0))))] := hD
  refine lv_aload_n hx hb dX10_init_31 rfl (lv_at hl 0 rfl) ?_
  refine lv_iconst (v := 0) hx hb dX10_init_32 (by decide) ?_
  refine va_newa (atype := .byte) (ty := .byte) (a0 := (0, .inl (fun _ => 0))) hx hb (hts _ (List.mem_cons_of_mem _ kn_B)) rfl hK hP hD hS hA (n := 0) (N' := 0) (fun _ => rfl) (by decide) (by decide) (by decide) (Nat.le_of_ble_eq_true rfl) (Nat.le_of_ble_eq_true rfl) dX10_init_33 (fun q4 cA4 H hK4 hP hD hS => ?_)
  rw [va_sameB hK4 4 0 rfl rfl] at hP hD
  have hP : va_P (dC, dI) vwCl [(h0, .inr (11, [.ref q1, .ref q2, .ref q3, .null, .int 0, .int 0, .null])), (q1, .inl (cI, 2001, .inl (fun _ => 0))), (q2, .inl (cI, 2001, .inl (fun _ => 0))), (q3, .inl (cJ, 2001, .inr (.inl (fun _ => 0)))), (q4, .inl (cB, 0, .inl (fun _ => 0)))] H := hP
  have hD : va_D A [(h0, .inr (11, [.ref q1, .ref q2, .ref q3, .null, .int 0, .int 0, .null])), (q1, .inl (cI, 2001, .inl (fun _ => 0))), (q2, .inl (cI, 2001, .inl (fun _ => 0))), (q3, .inl (cJ, 2001, .inr (.inl (fun _ => 0)))), (q4, .inl (cB, 0, .inl (fun _ => 0)))] := hD
  refine W.widen (k := 4) (n := 6003) (Nat.le_of_ble_eq_true rfl) (Nat.le_of_ble_eq_true rfl) ?_
  refine va_put (D := (dC, dI)) (ci := 11) (v := .ref q4) (ty := .array .byte) (C := RX10) (T := TX10) (N := 7) hx hb hts (fun w h => List.mem_cons_of_mem _ (uG_X10 w h)) tyX10 tyX10_ok nmX10 hown hK hP hD hS 0 rfl rfl 3 (by decide) (hts _ (List.mem_cons_of_mem _ kw_324)) (fun _ h9 => h9) rfl (by decide +kernel) rfl rfl (Nat.le_of_ble_eq_true rfl) dX10_init_35 (fun H locs hP hD hS => ?_)
  have hP : va_P (dC, dI) vwCl [(h0, .inr (11, [.ref q1, .ref q2, .ref q3, .ref q4, .int 0, .int 0, .null])), (q1, .inl (cI, 2001, .inl (fun _ => 0))), (q2, .inl (cI, 2001, .inl (fun _ => 0))), (q3, .inl (cJ, 2001, .inr (.inl (fun _ => 0)))), (q4, .inl (cB, 0, .inl (fun _ => 0)))] H := hP
  have hD : va_D A [(h0, .inr (11, [.ref q1, .ref q2, .ref q3, .ref q4, .int 0, .int 0, .null])), (q1, .inl (cI, 2001, .inl (fun _ => 0))), (q2, .inl (cI, 2001, .inl (fun _ => 0))), (q3, .inl (cJ, 2001, .inr (.inl (fun _ => 0)))), (q4, .inl (cB, 0, .inl (fun _ => 0)))] := hD
  refine lv_aload_n hx hb dX10_init_38 rfl (lv_at hl 0 rfl) ?_
  refine lv_bipush (v := 39) hx hb dX10_init_39 (by decide) ?_
  refine va_newa (atype := .long) (ty := .long) (a0 := (39, .inr (.inl (fun _ => 0)))) hx hb (hts _ (List.mem_cons_of_mem _ kn_J)) rfl hK hP hD hS hA (n := 39) (N' := 39) (fun _ => rfl) (by decide) (by decide) (by decide) (Nat.le_of_ble_eq_true rfl) (Nat.le_of_ble_eq_true rfl) dX10_init_41 (fun q5 cA5 H hK5 hP hD hS => ?_)
  rw [va_sameJ hK5 4 2 rfl rfl] at hP hD
  have hP : va_P (dC, dI) vwCl [(h0, .inr (11, [.ref q1, .ref q2, .ref q3, .ref q4, .int 0, .int 0, .null])), (q1, .inl (cI, 2001, .inl (fun _ => 0))), (q2, .inl (cI, 2001, .inl (fun _ => 0))), (q3, .inl (cJ, 2001, .inr (.inl (fun _ => 0)))), (q4, .inl (cB, 0, .inl (fun _ => 0))), (q5, .inl (cJ, 39, .inr (.inl (fun _ => 0))))] H := hP
  have hD : va_D A [(h0, .inr (11, [.ref q1, .ref q2, .ref q3, .ref q4, .int 0, .int 0, .null])), (q1, .inl (cI, 2001, .inl (fun _ => 0))), (q2, .inl (cI, 2001, .inl (fun _ => 0))), (q3, .inl (cJ, 2001, .inr (.inl (fun _ => 0)))), (q4, .inl (cB, 0, .inl (fun _ => 0))), (q5, .inl (cJ, 39, .inr (.inl (fun _ => 0))))] := hD
  refine W.widen (k := 5) (n := 6042) (Nat.le_of_ble_eq_true rfl) (Nat.le_of_ble_eq_true rfl) ?_
  refine va_putF (D := (dC, dI)) (ci := 11) (v := .ref q5) (ty := .array .long) (C := RX10) (T := TX10) (N := 7) hx hb hts (fun w h => List.mem_cons_of_mem _ (uG_X10 w h)) tyX10 tyX10_ok nmX10 hown hK hP hD hS 0 rfl rfl 6 (by decide) (hts _ (List.mem_cons_of_mem _ kw_327)) (fun _ h9 => h9) rfl hin rfl (by decide +kernel) rfl rfl (Nat.le_of_ble_eq_true rfl) dX10_init_43 (fun H locs hP hD hS => ?_)
  have hP : va_P (dC, dI) vwCl [(h0, .inr (11, [.ref q1, .ref q2, .ref q3, .ref q4, .int 0, .int 0, .ref q5])), (q1, .inl (cI, 2001, .inl (fun _ => 0))), (q2, .inl (cI, 2001, .inl (fun _ => 0))), (q3, .inl (cJ, 2001, .inr (.inl (fun _ => 0)))), (q4, .inl (cB, 0, .inl (fun _ => 0))), (q5, .inl (cJ, 39, .inr (.inl (fun _ => 0))))] H := hP
  have hD : va_D A [(h0, .inr (11, [.ref q1, .ref q2, .ref q3, .ref q4, .int 0, .int 0, .ref q5])), (q1, .inl (cI, 2001, .inl (fun _ => 0))), (q2, .inl (cI, 2001, .inl (fun _ => 0))), (q3, .inl (cJ, 2001, .inr (.inl (fun _ => 0)))), (q4, .inl (cB, 0, .inl (fun _ => 0))), (q5, .inl (cJ, 39, .inr (.inl (fun _ => 0))))] := hD
  refine lv_lconst (v := 0) hx hb dX10_init_46 (by decide) ?_
  refine lv_lstore_n (lv' := [(1, .long 0), (0, .ref h0)]) hx hb dX10_init_47 rfl hl (by decide) rfl (fun ls hl => ?_)
  refine lv_iconst (v := 0) hx hb dX10_init_48 (by decide) ?_
  refine lv_istore_n (lv' := [(3, .int 0), (1, .long 0), (0, .ref h0)]) hx hb dX10_init_49 rfl hl (by decide) rfl (fun ls hl => ?_)
  refine lv_iconst (v := 0) hx hb dX10_init_50 (by decide) ?_
  refine lv_istore (lv' := [(4, .int 0), (3, .int 0), (1, .long 0), (0, .ref h0)]) hx hb dX10_init_51 hl (by decide) rfl (fun ls hl => ?_)
  have lp_53 : ∀ (n_ : Nat) (i c9 : Nat) (wd : Int64) (tf : Nat → Int64), i ≤ 203 → (wd, c9, tf) = tcA i → 203 - i < n_ → ∀ (H : Heap) (locs : List Loc) (ls : Array Slot), va_P (dC, dI) vwCl [(h0, .inr (11, [.ref q1, .ref q2, .ref q3, .ref q4, .int 0, .int 0, .ref q5])), (q1, .inl (cI, 2001, .inl (fun _ => 0))), (q2, .inl (cI, 2001, .inl (fun _ => 0))), (q3, .inl (cJ, 2001, .inr (.inl (fun _ => 0)))), (q4, .inl (cB, 0, .inl (fun _ => 0))), (q5, .inl (cJ, 39, .inr (.inl tf)))] H → va_D A [(h0, .inr (11, [.ref q1, .ref q2, .ref q3, .ref q4, .int 0, .int 0, .ref q5])), (q1, .inl (cI, 2001, .inl (fun _ => 0))), (q2, .inl (cI, 2001, .inl (fun _ => 0))), (q3, .inl (cJ, 2001, .inr (.inl (fun _ => 0)))), (q4, .inl (cB, 0, .inl (fun _ => 0))), (q5, .inl (cJ, 39, .inr (.inl tf)))] → va_S A s.heap H locs → lv_has ls 6 [(4, .int (nI i)), (3, .int (nI c9)), (1, .long wd), (0, .ref h0)] → W p l e (headSpec (wsOf yX10_init cX10_init 6 none) ({ frames := 5, cells := 5, slots := 6042, locals := 300 })).room s m ([.ref h0] : List Value).toArray below meth c H locs 5 6042 (MQ below (qc_t_X10_init dC dI cB cI cJ cZ h0 K V fz A) ([.ref h0] : List Value).toArray s 5 6042 A) (F0 m 53 ls []) := by
    intro n_
    induction n_ with
    | zero => intro i c9 wd tf hi hin hm; exact absurd hm (Nat.not_lt_zero _)
    | succ n_ ih_53 =>
      intro i c9 wd tf hi hin hm H locs ls hP hD hS hl
      have hc9 : c9 = tcN i := by rw [← tcA_n i, ← hin]
      have hl0 := so_len0
      have hlt : i < 203 → c9 < 39 := fun h => by rw [hc9]; exact tcN_lt i h
      have hle : c9 ≤ 39 := by rw [hc9]; exact tcN_le i (by omega)
      refine lv_iload hx hb dX10_init_53 (lv_at hl 0 rfl) ?_
      refine va_ldcS (own := RX10) (index := 29) (tx := soT 0) (q := K 0) hx hb hown (hZ.ref 0 (by decide)) dX10_init_55 ?_
      have hPc := hP.sub (ws' := []) [] rfl
      have hDc := hD.sub (ws' := []) [] (by decide) rfl
      have hKc := hK.sub (tys' := [(cB, .byte), (cI, .int), (cJ, .long), (cZ, .boolean)]) [0, 1, 2, 3] rfl
      have hFc := va_free (wc := []) hD hS hA [] rfl
      refine va_calli (va_runV (As := []) (rest := [.int (nI i)]) ⟨hx, hb, hml, hown, hts⟩ (t_length l dC dI H.size cB cI cJ cZ 0 K V fz (by decide)) (cwV 0 hts (gd_all (in_V kw_263 kw_264 kw_265 kw_184 kc_J0_length_8abf5)) rfl rfl rfl (by decide +kernel) ⟨Nat.le_of_ble_eq_true rfl, Nat.le_of_ble_eq_true rfl⟩) ⟨fun a U g mk q => by obtain ⟨q0, q1, qP, qK, qD, qZ⟩ := q; exact ⟨q0, q1, qP, va_K.moved (u := U) (U := U.calling g mk a) (Vm.Alike.refl U.vm) qK, qD, zE.same (u := U) (U := U.calling g mk a) rfl rfl qZ⟩, zE.recv hZ (by decide) hS, fun U hU hW => ⟨rfl, by rw [hU], by rw [hU]; exact hPc, va_K.moved hW.alike hKc, hDc.weaken (fun _ _ _ _ => trivial), zE.go hZ hS hU hW hFc⟩⟩ rfl rfl hl.1 rfl (lv_room (Nat.le_of_ble_eq_true rfl)) dX10_init_57 ⟨Nat.le_of_ble_eq_true rfl, Nat.le_of_ble_eq_true rfl⟩) hS (fun q _ h => hFc q h) hFc (fun r_6 u t_ H1 locs ht hvm hw hB hz1 hk1 hS => ?_)
      obtain ⟨hP1, hK1, hD1⟩ := hB
      rw [ht] at hP1
      have hK1 := va_K.moved hvm.symm hK1
      obtain ⟨hP, hD⟩ := va_join (wr := [(h0, .inr (11, [.ref q1, .ref q2, .ref q3, .ref q4, .int 0, .int 0, .ref q5])), (q1, .inl (cI, 2001, .inl (fun _ => 0))), (q2, .inl (cI, 2001, .inl (fun _ => 0))), (q3, .inl (cJ, 2001, .inr (.inl (fun _ => 0)))), (q4, .inl (cB, 0, .inl (fun _ => 0))), (q5, .inl (cJ, 39, .inr (.inl tf)))]) (w1 := []) hP hD [] [0, 1, 2, 3, 4, 5] rfl rfl (by decide) (by decide) hk1 hFc hP1 hD1
      have hK := (hK.sub (tys' := []) [] rfl).app hK1
      generalize H1 = H at hP hS ⊢
      have hP : va_P (dC, dI) vwCl [(h0, .inr (11, [.ref q1, .ref q2, .ref q3, .ref q4, .int 0, .int 0, .ref q5])), (q1, .inl (cI, 2001, .inl (fun _ => 0))), (q2, .inl (cI, 2001, .inl (fun _ => 0))), (q3, .inl (cJ, 2001, .inr (.inl (fun _ => 0)))), (q4, .inl (cB, 0, .inl (fun _ => 0))), (q5, .inl (cJ, 39, .inr (.inl tf)))] H := hP
      have hD : va_D A [(h0, .inr (11, [.ref q1, .ref q2, .ref q3, .ref q4, .int 0, .int 0, .ref q5])), (q1, .inl (cI, 2001, .inl (fun _ => 0))), (q2, .inl (cI, 2001, .inl (fun _ => 0))), (q3, .inl (cJ, 2001, .inr (.inl (fun _ => 0)))), (q4, .inl (cB, 0, .inl (fun _ => 0))), (q5, .inl (cJ, 39, .inr (.inl tf)))] := hD
      have hK : va_K (dC, dI) vwCl [(cB, .byte), (cI, .int), (cJ, .long), (cZ, .boolean)] s := hK
      have er_6 : r_6 = nI 203 := hw.trans (congrArg nI so_len0)
      rw [er_6]
      refine lv_icmp_ge (tgt := 122) hx hb dX10_init_60 (by decide) (fun c_7 => ?_) (fun c_7 => ?_)
      · skip
        have c_7 : 203 ≤ i := (nI_leI (a := 203) (b := i) (by omega) (by omega)).mp c_7
        have ei : i = 203 := by omega
        have et : tf = (tcA 203).2.2 := by rw [← ei, ← hin]
        rw [et] at hP hD
        have hP9 := hP.sub (ws' := [(h0, .inr (11, [.ref q1, .ref q2, .ref q3, .ref q4, .int 0, .int 0, .ref q5])), (q1, .inl (cI, 2001, .inl (fun _ => 0))), (q2, .inl (cI, 2001, .inl (fun _ => 0))), (q3, .inl (cJ, 2001, .inr (.inl (fun _ => 0)))), (q4, .inl (cB, 0, .inl (fun _ => 0))), (q5, .inl (cJ, 39, .inr (.inl ((tcA 203).2.2))))]) [0, 1, 2, 3, 4, 5] rfl
        have hD9 := hD.sub (ws' := [(h0, .inr (11, [.ref q1, .ref q2, .ref q3, .ref q4, .int 0, .int 0, .ref q5])), (q1, .inl (cI, 2001, .inl (fun _ => 0))), (q2, .inl (cI, 2001, .inl (fun _ => 0))), (q3, .inl (cJ, 2001, .inr (.inl (fun _ => 0)))), (q4, .inl (cB, 0, .inl (fun _ => 0))), (q5, .inl (cJ, 39, .inr (.inl ((tcA 203).2.2))))]) [0, 1, 2, 3, 4, 5] (by decide) rfl
        have hK9 := hK.sub (tys' := [(cB, .byte), (cI, .int), (cJ, .long), (cZ, .boolean)]) [0, 1, 2, 3] rfl
        refine W.widen (k := 5) (n := 6042) (Nat.le_of_ble_eq_true rfl) (Nat.le_of_ble_eq_true rfl) ?_
        exact W.vret hx hb hr (fun t_ ht hW => ⟨⟨(), rfl, trivial, q1, q2, q3, q4, q5, by rw [ht]; exact hP9, va_K.moved hW.alike hK9, hD9⟩, hS.F ht⟩) hS.2.2 dX10_init_122
      · skip
        have c_7 : ¬ (203 ≤ i) := fun h => c_7 ((nI_leI (a := 203) (b := i) (by omega) (by omega)).mpr h)
        refine lv_iload_n hx hb dX10_init_63 rfl (lv_at hl 1 rfl) ?_
        refine lv_aload_n hx hb dX10_init_64 rfl (lv_at hl 3 rfl) ?_
        refine va_get (D := (dC, dI)) (ci := 11) (v := .ref q5) (C := RX10) (T := TX10) (N := 7) hx hb hts (fun w h => List.mem_cons_of_mem _ (uG_X10 w h)) hown hK hP 0 rfl rfl 6 (by decide) (hts _ (List.mem_cons_of_mem _ kw_327)) (fun _ h9 => h9) rfl dX10_init_65 ?_
        refine va_alen (v := 39) hx hb hK hP 5 2 rfl rfl rfl dX10_init_68 ?_
        refine lv_icmp_ge (tgt := 122) hx hb dX10_init_69 (by decide) (fun c_8 => ?_) (fun c_8 => ?_)
        · skip
          have c_8 : 39 ≤ c9 := (nI_leI (a := 39) (b := c9) (by omega) (by omega)).mp c_8
          exact absurd (hlt (by omega)) (by omega)
        · skip
          have c_8 : ¬ (39 ≤ c9) := fun h => c_8 ((nI_leI (a := 39) (b := c9) (by omega) (by omega)).mpr h)
          refine va_ldcS (own := RX10) (index := 29) (tx := soT 0) (q := K 0) hx hb hown (hZ.ref 0 (by decide)) dX10_init_72 ?_
          refine lv_iload hx hb dX10_init_74 (lv_at hl 0 rfl) ?_
          have hPc := hP.sub (ws' := []) [] rfl
          have hDc := hD.sub (ws' := []) [] (by decide) rfl
          have hKc := hK.sub (tys' := [(cB, .byte), (cI, .int), (cJ, .long), (cZ, .boolean)]) [0, 1, 2, 3] rfl
          have hFc := va_free (wc := []) hD hS hA [] rfl
          refine va_calli (va_runV (As := [.int (nI i)]) (rest := []) ⟨hx, hb, hml, hown, hts⟩ (t_charAt l dC dI H.size cB cI cJ cZ 0 i K V fz (by decide) (by omega)) (cwV 1 hts (gd_all (in_V kw_273 kw_274 kw_275 kw_184 kc_J0_charAt_5068e)) rfl rfl rfl (by decide +kernel) ⟨Nat.le_of_ble_eq_true rfl, Nat.le_of_ble_eq_true rfl⟩) ⟨fun a U g mk q => by obtain ⟨q0, q1, qP, qK, qD, qZ⟩ := q; exact ⟨q0, q1, qP, va_K.moved (u := U) (U := U.calling g mk a) (Vm.Alike.refl U.vm) qK, qD, zE.same (u := U) (U := U.calling g mk a) rfl rfl qZ⟩, zE.recv hZ (by decide) hS, fun U hU hW => ⟨rfl, by rw [hU], by rw [hU]; exact hPc, va_K.moved hW.alike hKc, hDc.weaken (fun _ _ _ _ => trivial), zE.go hZ hS hU hW hFc⟩⟩ rfl rfl hl.1 rfl (lv_room (Nat.le_of_ble_eq_true rfl)) dX10_init_76 ⟨Nat.le_of_ble_eq_true rfl, Nat.le_of_ble_eq_true rfl⟩) hS (fun q _ h => hFc q h) hFc (fun r_9 u t_ H1 locs ht hvm hw hB hz1 hk1 hS => ?_)
          obtain ⟨hP1, hK1, hD1⟩ := hB
          rw [ht] at hP1
          have hK1 := va_K.moved hvm.symm hK1
          obtain ⟨hP, hD⟩ := va_join (wr := [(h0, .inr (11, [.ref q1, .ref q2, .ref q3, .ref q4, .int 0, .int 0, .ref q5])), (q1, .inl (cI, 2001, .inl (fun _ => 0))), (q2, .inl (cI, 2001, .inl (fun _ => 0))), (q3, .inl (cJ, 2001, .inr (.inl (fun _ => 0)))), (q4, .inl (cB, 0, .inl (fun _ => 0))), (q5, .inl (cJ, 39, .inr (.inl tf)))]) (w1 := []) hP hD [] [0, 1, 2, 3, 4, 5] rfl rfl (by decide) (by decide) hk1 hFc hP1 hD1
          have hK := (hK.sub (tys' := []) [] rfl).app hK1
          generalize H1 = H at hP hS ⊢
          have hP : va_P (dC, dI) vwCl [(h0, .inr (11, [.ref q1, .ref q2, .ref q3, .ref q4, .int 0, .int 0, .ref q5])), (q1, .inl (cI, 2001, .inl (fun _ => 0))), (q2, .inl (cI, 2001, .inl (fun _ => 0))), (q3, .inl (cJ, 2001, .inr (.inl (fun _ => 0)))), (q4, .inl (cB, 0, .inl (fun _ => 0))), (q5, .inl (cJ, 39, .inr (.inl tf)))] H := hP
          have hD : va_D A [(h0, .inr (11, [.ref q1, .ref q2, .ref q3, .ref q4, .int 0, .int 0, .ref q5])), (q1, .inl (cI, 2001, .inl (fun _ => 0))), (q2, .inl (cI, 2001, .inl (fun _ => 0))), (q3, .inl (cJ, 2001, .inr (.inl (fun _ => 0)))), (q4, .inl (cB, 0, .inl (fun _ => 0))), (q5, .inl (cJ, 39, .inr (.inl tf)))] := hD
          have hK : va_K (dC, dI) vwCl [(cB, .byte), (cI, .int), (cJ, .long), (cZ, .boolean)] s := hK
          have er_9 : r_9 = soC 0 i := hw
          rw [er_9]
          refine lv_istore (lv' := [(5, .int (soC 0 i)), (4, .int (nI i)), (3, .int (nI c9)), (1, .long wd), (0, .ref h0)]) hx hb dX10_init_79 hl (by decide) rfl (fun ls hl => ?_)
          refine lv_iload hx hb dX10_init_81 (lv_at hl 0 rfl) ?_
          refine lv_bipush (v := 32) hx hb dX10_init_83 (by decide) ?_
          refine lv_icmp_ne (tgt := 103) hx hb dX10_init_85 (by decide) (fun c_10 => ?_) (fun c_10 => ?_)
          · skip
            refine lv_lload_n hx hb dX10_init_103 rfl (lv_at hl 3 rfl) ?_
            refine lv_ldc2 hx hb hown (hts _ (List.mem_cons_of_mem _ kw_311)) dX10_init_104 ?_
            refine lv_lmul hx hb dX10_init_107 ?_
            refine lv_iload hx hb dX10_init_108 (lv_at hl 0 rfl) ?_
            have hPc := hP.sub (ws' := []) [] rfl
            have hDc := hD.sub (ws' := []) [] (by decide) rfl
            have hKc := hK.sub (tys' := [(cB, .byte), (cI, .int), (cJ, .long), (cZ, .boolean)]) [0, 1, 2, 3] rfl
            have hFc := va_free (wc := []) hD hS hA [] rfl
            refine va_calli (va_runS (As := [.int (soC 0 i)]) (rest := [.long (wd * (37))]) ⟨hx, hb, hml, hown, hts⟩ (t_X10_letterCode l dC dI H.size cB cI cJ cZ (soC 0 i)) ⟨callB_of 1 hts (gd_all (in_I kc_X10_letterCode)) rfl rfl rfl (hts _ (List.mem_cons_of_mem _ kw_183)) (hts _ (List.mem_cons_of_mem _ kw_312)) (by decide +kernel) ⟨Nat.le_of_ble_eq_true rfl, Nat.le_of_ble_eq_true rfl⟩, hts _ (List.mem_cons_of_mem _ kw_313)⟩ ⟨fun a U g mk q => by obtain ⟨q0, q1, qP, qK, qD⟩ := q; exact ⟨q0, q1, qP, va_K.moved (u := U) (U := U.calling g mk a) (Vm.Alike.refl U.vm) qK, qD⟩, fun U hU hW => ⟨rfl, by rw [hU], by rw [hU]; exact hPc, va_K.moved hW.alike hKc, hDc.weaken (fun _ _ _ _ => trivial)⟩⟩ rfl rfl hl.1 rfl (lv_room (Nat.le_of_ble_eq_true rfl)) dX10_init_110 ⟨Nat.le_of_ble_eq_true rfl, Nat.le_of_ble_eq_true rfl⟩) hS (fun q _ h => hFc q h) hFc (fun r_11 u t_ H1 locs ht hvm hw hB hz1 hk1 hS => ?_)
            obtain ⟨hP1, hK1, hD1⟩ := hB
            rw [ht] at hP1
            have hK1 := va_K.moved hvm.symm hK1
            obtain ⟨hP, hD⟩ := va_join (wr := [(h0, .inr (11, [.ref q1, .ref q2, .ref q3, .ref q4, .int 0, .int 0, .ref q5])), (q1, .inl (cI, 2001, .inl (fun _ => 0))), (q2, .inl (cI, 2001, .inl (fun _ => 0))), (q3, .inl (cJ, 2001, .inr (.inl (fun _ => 0)))), (q4, .inl (cB, 0, .inl (fun _ => 0))), (q5, .inl (cJ, 39, .inr (.inl tf)))]) (w1 := []) hP hD [] [0, 1, 2, 3, 4, 5] rfl rfl (by decide) (by decide) hk1 hFc hP1 hD1
            have hK := (hK.sub (tys' := []) [] rfl).app hK1
            generalize H1 = H at hP hS ⊢
            have hP : va_P (dC, dI) vwCl [(h0, .inr (11, [.ref q1, .ref q2, .ref q3, .ref q4, .int 0, .int 0, .ref q5])), (q1, .inl (cI, 2001, .inl (fun _ => 0))), (q2, .inl (cI, 2001, .inl (fun _ => 0))), (q3, .inl (cJ, 2001, .inr (.inl (fun _ => 0)))), (q4, .inl (cB, 0, .inl (fun _ => 0))), (q5, .inl (cJ, 39, .inr (.inl tf)))] H := hP
            have hD : va_D A [(h0, .inr (11, [.ref q1, .ref q2, .ref q3, .ref q4, .int 0, .int 0, .ref q5])), (q1, .inl (cI, 2001, .inl (fun _ => 0))), (q2, .inl (cI, 2001, .inl (fun _ => 0))), (q3, .inl (cJ, 2001, .inr (.inl (fun _ => 0)))), (q4, .inl (cB, 0, .inl (fun _ => 0))), (q5, .inl (cJ, 39, .inr (.inl tf)))] := hD
            have hK : va_K (dC, dI) vwCl [(cB, .byte), (cI, .int), (cJ, .long), (cZ, .boolean)] s := hK
            have er_11 : r_11 = lcd (soC 0 i) := hw
            rw [er_11]
            refine lv_i2l hx hb dX10_init_113 rfl ?_
            refine lv_ladd hx hb dX10_init_114 ?_
            refine lv_lstore_n (lv' := [(1, .long ((wd * (37)) + ((lcd (soC 0 i)).toInt64))), (5, .int (soC 0 i)), (4, .int (nI i)), (3, .int (nI c9)), (0, .ref h0)]) hx hb dX10_init_115 rfl hl (by decide) rfl (fun ls hl => ?_)
            refine lv_iinc (v := nI (i + 1)) (lv' := [(4, .int (nI (i + 1))), (1, .long ((wd * (37)) + ((lcd (soC 0 i)).toInt64))), (5, .int (soC 0 i)), (3, .int (nI c9)), (0, .ref h0)]) hx hb dX10_init_116 hl (k := 2) rfl (nI_add i 1) (by decide) rfl (fun ls hl => ?_)
            refine lv_goto (tgt := 53) hx hb dX10_init_119 (by decide) ?_
            exact ih_53 (i + 1) c9 (wd * 37 + (lcd (soC 0 i)).toInt64) tf (by omega) (tcA_z hin c_10) (by omega) _ _ _ (hP.sub [0, 1, 2, 3, 4, 5] rfl) (hD.sub [0, 1, 2, 3, 4, 5] (by decide) rfl) hS (lv_sub hl [0, 3, 1, 4] rfl)
          · skip
            refine lv_aload_n hx hb dX10_init_88 rfl (lv_at hl 4 rfl) ?_
            refine va_get (D := (dC, dI)) (ci := 11) (v := .ref q5) (C := RX10) (T := TX10) (N := 7) hx hb hts (fun w h => List.mem_cons_of_mem _ (uG_X10 w h)) hown hK hP 0 rfl rfl 6 (by decide) (hts _ (List.mem_cons_of_mem _ kw_327)) (fun _ h9 => h9) rfl dX10_init_89 ?_
            refine lv_iload_n hx hb dX10_init_92 rfl (lv_at hl 2 rfl) ?_
            refine lv_lload_n hx hb dX10_init_93 rfl (lv_at hl 3 rfl) ?_
            refine va_last hx hb hK hP hD hS 5 2 rfl rfl (i := (nI c9)) (x := wd) (vp_in_nI (n := c9) (N := 39) (by omega) (by omega)) dX10_init_94 (fun H locs hP hD hS => ?_)
            rw [show (nI c9).toNatClampNeg = c9 from nI_clamp (n := c9) (by omega)] at hP hD
            have hP : va_P (dC, dI) vwCl [(h0, .inr (11, [.ref q1, .ref q2, .ref q3, .ref q4, .int 0, .int 0, .ref q5])), (q1, .inl (cI, 2001, .inl (fun _ => 0))), (q2, .inl (cI, 2001, .inl (fun _ => 0))), (q3, .inl (cJ, 2001, .inr (.inl (fun _ => 0)))), (q4, .inl (cB, 0, .inl (fun _ => 0))), (q5, .inl (cJ, 39, .inr (.inl (vp_updL tf c9 wd))))] H := hP
            have hD : va_D A [(h0, .inr (11, [.ref q1, .ref q2, .ref q3, .ref q4, .int 0, .int 0, .ref q5])), (q1, .inl (cI, 2001, .inl (fun _ => 0))), (q2, .inl (cI, 2001, .inl (fun _ => 0))), (q3, .inl (cJ, 2001, .inr (.inl (fun _ => 0)))), (q4, .inl (cB, 0, .inl (fun _ => 0))), (q5, .inl (cJ, 39, .inr (.inl (vp_updL tf c9 wd))))] := hD
            refine lv_iinc (v := nI (c9 + 1)) (lv' := [(3, .int (nI (c9 + 1))), (5, .int (soC 0 i)), (4, .int (nI i)), (1, .long wd), (0, .ref h0)]) hx hb dX10_init_95 hl (k := 2) rfl (nI_add c9 1) (by decide) rfl (fun ls hl => ?_)
            refine lv_lconst (v := 0) hx hb dX10_init_98 (by decide) ?_
            refine lv_lstore_n (lv' := [(1, .long 0), (3, .int (nI (c9 + 1))), (5, .int (soC 0 i)), (4, .int (nI i)), (0, .ref h0)]) hx hb dX10_init_99 rfl hl (by decide) rfl (fun ls hl => ?_)
            refine lv_goto (tgt := 116) hx hb dX10_init_100 (by decide) ?_
            refine lv_iinc (v := nI (i + 1)) (lv' := [(4, .int (nI (i + 1))), (1, .long 0), (3, .int (nI (c9 + 1))), (5, .int (soC 0 i)), (0, .ref h0)]) hx hb dX10_init_116 hl (k := 3) rfl (nI_add i 1) (by decide) rfl (fun ls hl => ?_)
            refine lv_goto (tgt := 53) hx hb dX10_init_119 (by decide) ?_
            exact ih_53 (i + 1) (c9 + 1) 0 (vp_updL tf c9 wd) (by omega) (tcA_y hin c_10) (by omega) _ _ _ (hP.sub [0, 1, 2, 3, 4, 5] rfl) (hD.sub [0, 1, 2, 3, 4, 5] (by decide) rfl) hS (lv_sub hl [0, 2, 1, 4] rfl)
  exact lp_53 _ 0 0 0 (fun _ => 0) (Nat.zero_le _) rfl (Nat.lt_succ_self _) _ _ _ (hP.sub [0, 1, 2, 3, 4, 5] rfl) (hD.sub [0, 1, 2, 3, 4, 5] (by decide) rfl) hS (lv_sub hl [0, 1, 2, 3] rfl)
abbrev cs_t_longer (cB cI cJ cZ : ClassId) (k x : Int32) : va_W := []
abbrev pc_t_longer (dC : Nat → ClassId) (dI : Nat → Nat → Nat) (sz : Nat) (cB cI cJ cZ : ClassId) (k x : Int32) : Array Value → State → Prop := va_Pc [.int k, .int x] (fun U => U.heap.size = sz ∧ va_P (dC, dI) vwCl [] U.heap ∧ va_K (dC, dI) vwCl [(cB, .byte), (cI, .int), (cJ, .long), (cZ, .boolean)] U ∧ va_D (fun _ => True) [])
abbrev qc_t_longer (dC : Nat → ClassId) (dI : Nat → Nat → Nat) (cB cI cJ cZ : ClassId) (k x : Int32) (A : Nat → Prop) : Array Value → State → Outcome → State → Prop := va_Qi (fun (r : Int32) (u : Unit) => match u with | _ => r = lsI k x) (fun (u : Unit) t_ => match u with | _ => va_P (dC, dI) vwCl [] t_.heap ∧ va_K (dC, dI) vwCl [(cB, .byte), (cI, .int), (cJ, .long), (cZ, .boolean)] t_ ∧ va_D A []) A
set_option maxHeartbeats 4000000 in
set_option maxRecDepth 100000 in
theorem t_longer (l : Launch) (dC : Nat → ClassId) (dI : Nat → Nat → Nat) (sz : Nat) (cB cI cJ cZ : ClassId) (k x : Int32)  : Met l yX10_longerSign (wsOf yX10_longerSign cX10_longerSign 2 (some .int)) ({ frames := 0, cells := 0, slots := 0, locals := 0 }) (pc_t_longer dC dI sz cB cI cJ cZ k x) (qc_t_longer dC dI cB cI cJ cZ k x (va_A (cs_t_longer cB cI cJ cZ k x) sz)) 0 0 (va_A (cs_t_longer cB cI cJ cZ k x) sz) := by
  by_cases h1 : k = 51
  · subst h1; exact t_longer_lt l dC dI sz cB cI cJ cZ x
  · by_cases h2 : k = 52
    · subst h2; exact t_longer_gt l dC dI sz cB cI cJ cZ x
    · exact t_longer_o l dC dI sz cB cI cJ cZ k x h1 h2
theorem dX10_scanSign_0 : decode cX10_scanSign 0 = .ok (.iload_n 1, 1) := by decide +kernel
theorem dX10_scanSign_1 : decode cX10_scanSign 1 = .ok (.ifCond .ge 7, 3) := by decide +kernel
theorem dX10_scanSign_4 : decode cX10_scanSign 4 = .ok (.iconst (-1), 1) := by decide +kernel
theorem dX10_scanSign_5 : decode cX10_scanSign 5 = .ok (.goto 10, 3) := by decide +kernel
theorem dX10_scanSign_8 : decode cX10_scanSign 8 = .ok (.ldc 99, 2) := by decide +kernel
theorem dX10_scanSign_10 : decode cX10_scanSign 10 = .ok (.iload_n 1, 1) := by decide +kernel
theorem dX10_scanSign_11 : decode cX10_scanSign 11 = .ok (.i2c, 1) := by decide +kernel
theorem dX10_scanSign_12 : decode cX10_scanSign 12 = .ok (.invokevirtual 101, 3) := by decide +kernel
theorem dX10_scanSign_15 : decode cX10_scanSign 15 = .ok (.istore_n 2, 1) := by decide +kernel
theorem dX10_scanSign_16 : decode cX10_scanSign 16 = .ok (.iload_n 2, 1) := by decide +kernel
theorem dX10_scanSign_17 : decode cX10_scanSign 17 = .ok (.ifCond .ge 8, 3) := by decide +kernel
theorem dX10_scanSign_20 : decode cX10_scanSign 20 = .ok (.bipush 57, 2) := by decide +kernel
theorem dX10_scanSign_22 : decode cX10_scanSign 22 = .ok (.goto 7, 3) := by decide +kernel
theorem dX10_scanSign_25 : decode cX10_scanSign 25 = .ok (.bipush 41, 2) := by decide +kernel
theorem dX10_scanSign_27 : decode cX10_scanSign 27 = .ok (.iload_n 2, 1) := by decide +kernel
theorem dX10_scanSign_28 : decode cX10_scanSign 28 = .ok (.iadd, 1) := by decide +kernel
theorem dX10_scanSign_29 : decode cX10_scanSign 29 = .ok (.istore_n 3, 1) := by decide +kernel
theorem dX10_scanSign_30 : decode cX10_scanSign 30 = .ok (.aload_n 0, 1) := by decide +kernel
theorem dX10_scanSign_31 : decode cX10_scanSign 31 = .ok (.dup, 1) := by decide +kernel
theorem dX10_scanSign_32 : decode cX10_scanSign 32 = .ok (.getfield 57, 3) := by decide +kernel
theorem dX10_scanSign_35 : decode cX10_scanSign 35 = .ok (.iconst 1, 1) := by decide +kernel
theorem dX10_scanSign_36 : decode cX10_scanSign 36 = .ok (.iadd, 1) := by decide +kernel
theorem dX10_scanSign_37 : decode cX10_scanSign 37 = .ok (.putfield 57, 3) := by decide +kernel
theorem dX10_scanSign_40 : decode cX10_scanSign 40 = .ok (.iload_n 3, 1) := by decide +kernel
theorem dX10_scanSign_41 : decode cX10_scanSign 41 = .ok (.aload_n 0, 1) := by decide +kernel
theorem dX10_scanSign_42 : decode cX10_scanSign 42 = .ok (.aload_n 0, 1) := by decide +kernel
theorem dX10_scanSign_43 : decode cX10_scanSign 43 = .ok (.getfield 57, 3) := by decide +kernel
theorem dX10_scanSign_46 : decode cX10_scanSign 46 = .ok (.invokevirtual 67, 3) := by decide +kernel
theorem dX10_scanSign_49 : decode cX10_scanSign 49 = .ok (.invokestatic 104, 3) := by decide +kernel
theorem dX10_scanSign_52 : decode cX10_scanSign 52 = .ok (.istore 4, 2) := by decide +kernel
theorem dX10_scanSign_54 : decode cX10_scanSign 54 = .ok (.iload 4, 2) := by decide +kernel
theorem dX10_scanSign_56 : decode cX10_scanSign 56 = .ok (.iload_n 3, 1) := by decide +kernel
theorem dX10_scanSign_57 : decode cX10_scanSign 57 = .ok (.if_icmp .ne 5, 3) := by decide +kernel
theorem dX10_scanSign_60 : decode cX10_scanSign 60 = .ok (.iload_n 3, 1) := by decide +kernel
theorem dX10_scanSign_61 : decode cX10_scanSign 61 = .ok (.ireturn, 1) := by decide +kernel
theorem dX10_scanSign_62 : decode cX10_scanSign 62 = .ok (.aload_n 0, 1) := by decide +kernel
theorem dX10_scanSign_63 : decode cX10_scanSign 63 = .ok (.dup, 1) := by decide +kernel
theorem dX10_scanSign_64 : decode cX10_scanSign 64 = .ok (.getfield 57, 3) := by decide +kernel
theorem dX10_scanSign_67 : decode cX10_scanSign 67 = .ok (.iconst 1, 1) := by decide +kernel
theorem dX10_scanSign_68 : decode cX10_scanSign 68 = .ok (.iadd, 1) := by decide +kernel
theorem dX10_scanSign_69 : decode cX10_scanSign 69 = .ok (.putfield 57, 3) := by decide +kernel
theorem dX10_scanSign_72 : decode cX10_scanSign 72 = .ok (.iload 4, 2) := by decide +kernel
theorem dX10_scanSign_74 : decode cX10_scanSign 74 = .ok (.ireturn, 1) := by decide +kernel
abbrev cs_t_sign_n (cB cI cJ cZ : ClassId) (h0 hT n k0 : Nat) (g : Nat → Int32) (y0 y1 y2 y6 : Value) (x : Int32) (K V : Nat → Nat) (fz : Value) : va_W := [(h0, .inr (11, [y0, y1, y2, .ref hT, .int (nI n), .int (nI k0), y6])), (hT, .inl (cB, 2000, .inl g))]
abbrev pc_t_sign_n (dC : Nat → ClassId) (dI : Nat → Nat → Nat) (sz : Nat) (cB cI cJ cZ : ClassId) (h0 hT n k0 : Nat) (g : Nat → Int32) (y0 y1 y2 y6 : Value) (x : Int32) (K V : Nat → Nat) (fz : Value) : Array Value → State → Prop := va_Pc [.ref h0, .int x] (fun U => U.heap.size = sz ∧ va_P (dC, dI) vwCl [(h0, .inr (11, [y0, y1, y2, .ref hT, .int (nI n), .int (nI k0), y6])), (hT, .inl (cB, 2000, .inl g))] U.heap ∧ va_K (dC, dI) vwCl [(cB, .byte), (cI, .int), (cJ, .long), (cZ, .boolean)] U ∧ va_D (fun _ => True) [(h0, .inr (11, [y0, y1, y2, .ref hT, .int (nI n), .int (nI k0), y6])), (hT, .inl (cB, 2000, .inl g))] ∧ zE K V fz (va_A (cs_t_sign_n cB cI cJ cZ h0 hT n k0 g y0 y1 y2 y6 x K V fz) sz) U)
abbrev qc_t_sign_n (dC : Nat → ClassId) (dI : Nat → Nat → Nat) (cB cI cJ cZ : ClassId) (h0 hT n k0 : Nat) (g : Nat → Int32) (y0 y1 y2 y6 : Value) (x : Int32) (K V : Nat → Nat) (fz : Value) (A : Nat → Prop) : Array Value → State → Outcome → State → Prop := va_Qi (fun (r : Int32) (u : Nat) => match u with | k2 => r = lsI 57 (btF g n (k0 + 1)) ∧ k2 = sgE 57 (btF g n (k0 + 1)) k0) (fun (u : Nat) t_ => match u with | k2 => va_P (dC, dI) vwCl [(h0, .inr (11, [y0, y1, y2, .ref hT, .int (nI n), .int (nI k2), y6])), (hT, .inl (cB, 2000, .inl g))] t_.heap ∧ va_K (dC, dI) vwCl [(cB, .byte), (cI, .int), (cJ, .long), (cZ, .boolean)] t_ ∧ va_D A [(h0, .inr (11, [y0, y1, y2, .ref hT, .int (nI n), .int (nI k2), y6])), (hT, .inl (cB, 2000, .inl g))]) A
set_option maxHeartbeats 4000000 in
set_option maxRecDepth 100000 in
theorem t_sign_n (l : Launch) (dC : Nat → ClassId) (dI : Nat → Nat → Nat) (sz : Nat) (cB cI cJ cZ : ClassId) (h0 hT n k0 : Nat) (g : Nat → Int32) (y0 y1 y2 y6 : Value) (x : Int32) (K V : Nat → Nat) (fz : Value) (hn : n ≤ 2000) (hk0 : k0 ≤ 2000) (hx0 : x < 0) : Met l yX10_scanSign (wsOf yX10_scanSign cX10_scanSign 5 (some .int)) ({ frames := 5, cells := 0, slots := 0, locals := 300 }) (pc_t_sign_n dC dI sz cB cI cJ cZ h0 hT n k0 g y0 y1 y2 y6 x K V fz) (qc_t_sign_n dC dI cB cI cJ cZ h0 hT n k0 g y0 y1 y2 y6 x K V fz (va_A (cs_t_sign_n cB cI cJ cZ h0 hT n k0 g y0 y1 y2 y6 x K V fz) sz)) 0 0 (va_A (cs_t_sign_n cB cI cJ cZ h0 hT n k0 g y0 y1 y2 y6 x K V fz) sz) := by
  refine Met.ofW (cc := cX10_scanSign) (maxL := 5) (ret := (some .int)) (by decide) rfl ?_
  intro p e s m args below meth c s₁ B hml hv
  obtain ⟨rfl, hsz, hP, hK, hD0, hZ⟩ := hv
  have hx := B.exec
  have hb := B.bytes
  have hr := B.returns
  have hts := atoms_spec (ws := (wsOf yX10_scanSign cX10_scanSign 5 (some .int))) B.pre
  have hown : s.vm.findClass RX10 = some m.cls := findClass_of_methodNamed B.named
  have hlocks := B.notSynchronized
  subst hsz
  have hD := hD0.self (sz := s.heap.size)
  generalize hAe : va_A (cs_t_sign_n cB cI cJ cZ h0 hT n k0 g y0 y1 y2 y6 x K V fz) s.heap.size = A at hD hZ ⊢
  have hA : ∀ q : Nat, s.heap.size ≤ q → A q := fun q h => by rw [← hAe]; exact Or.inr h
  have hS : va_S A s.heap s.heap [] := va_S.rf
  have hP : va_P (dC, dI) vwCl [(h0, .inr (11, [y0, y1, y2, .ref hT, .int (nI n), .int (nI k0), y6])), (hT, .inl (cB, 2000, .inl g))] s.heap := hP
  have hl := lv_entry ([.ref h0, .int x]) (n := 5) (Nat.le_of_ble_eq_true rfl)
  rw [lg_entry_eq]
  generalize (lg_sl ([.ref h0, .int x]) ++ List.replicate (5 - (lg_sl ([.ref h0, .int x])).length) Slot.unset).toArray = ls at hl ⊢
  have hl : lv_has ls 5 [(0, .ref h0), (1, .int x)] := hl
  refine lv_iload_n hx hb dX10_scanSign_0 rfl (lv_at hl 1 rfl) ?_
  refine lv_if_ge (tgt := 8) hx hb dX10_scanSign_1 (by decide) (fun c_1 => ?_) (fun c_1 => ?_)
  · skip
    exact absurd c_1 (Int32.not_le.mpr hx0)
  · skip
    refine lv_iconst (v := (-1)) hx hb dX10_scanSign_4 (by decide) ?_
    refine lv_goto (tgt := 15) hx hb dX10_scanSign_5 (by decide) ?_
    refine lv_istore_n (lv' := [(2, .int (-1)), (0, .ref h0), (1, .int x)]) hx hb dX10_scanSign_15 rfl hl (by decide) rfl (fun ls hl => ?_)
    refine lv_iload_n hx hb dX10_scanSign_16 rfl (lv_at hl 0 rfl) ?_
    refine lv_if_ge (tgt := 25) hx hb dX10_scanSign_17 (by decide) (fun c_2 => ?_) (fun c_2 => ?_)
    · skip
      exact absurd c_2 (by decide)
    · skip
      refine lv_bipush (v := 57) hx hb dX10_scanSign_20 (by decide) ?_
      refine lv_goto (tgt := 29) hx hb dX10_scanSign_22 (by decide) ?_
      refine lv_istore_n (lv' := [(3, .int 57), (2, .int (-1)), (0, .ref h0), (1, .int x)]) hx hb dX10_scanSign_29 rfl hl (by decide) rfl (fun ls hl => ?_)
      refine lv_aload_n hx hb dX10_scanSign_30 rfl (lv_at hl 2 rfl) ?_
      refine lv_dup hx hb dX10_scanSign_31 rfl ?_
      refine va_get (D := (dC, dI)) (ci := 11) (v := .int (nI k0)) (C := RX10) (T := TX10) (N := 7) hx hb hts (fun w h => List.mem_cons_of_mem _ (uG_X10 w h)) hown hK hP 0 rfl rfl 5 (by decide) (hts _ (List.mem_cons_of_mem _ kw_326)) (fun _ h9 => h9) rfl dX10_scanSign_32 ?_
      refine lv_iconst (v := 1) hx hb dX10_scanSign_35 (by decide) ?_
      refine lv_iadd hx hb dX10_scanSign_36 ?_
      refine lv_topi (fun x_3 ex_3 => ?_)
      have ex_3 : x_3 = nI (k0 + 1) := ex_3.trans (nI_add k0 1)
      subst ex_3
      refine va_put (D := (dC, dI)) (ci := 11) (v := .int (nI (k0 + 1))) (ty := .int) (C := RX10) (T := TX10) (N := 7) hx hb hts (fun w h => List.mem_cons_of_mem _ (uG_X10 w h)) tyX10 tyX10_ok nmX10 hown hK hP hD hS 0 rfl rfl 5 (by decide) (hts _ (List.mem_cons_of_mem _ kw_326)) (fun _ h9 => h9) rfl (by decide +kernel) rfl rfl (Nat.le_of_ble_eq_true rfl) dX10_scanSign_37 (fun H locs hP hD hS => ?_)
      have hP : va_P (dC, dI) vwCl [(h0, .inr (11, [y0, y1, y2, .ref hT, .int (nI n), .int (nI (k0 + 1)), y6])), (hT, .inl (cB, 2000, .inl g))] H := hP
      have hD : va_D A [(h0, .inr (11, [y0, y1, y2, .ref hT, .int (nI n), .int (nI (k0 + 1)), y6])), (hT, .inl (cB, 2000, .inl g))] := hD
      refine lv_iload_n hx hb dX10_scanSign_40 rfl (lv_at hl 0 rfl) ?_
      refine lv_aload_n hx hb dX10_scanSign_41 rfl (lv_at hl 2 rfl) ?_
      refine lv_aload_n hx hb dX10_scanSign_42 rfl (lv_at hl 2 rfl) ?_
      refine va_get (D := (dC, dI)) (ci := 11) (v := .int (nI (k0 + 1))) (C := RX10) (T := TX10) (N := 7) hx hb hts (fun w h => List.mem_cons_of_mem _ (uG_X10 w h)) hown hK hP 0 rfl rfl 5 (by decide) (hts _ (List.mem_cons_of_mem _ kw_326)) (fun _ h9 => h9) rfl dX10_scanSign_43 ?_
      have hPc := hP.sub (ws' := [(h0, .inr (11, [y0, y1, y2, .ref hT, .int (nI n), .int (nI (k0 + 1)), y6])), (hT, .inl (cB, 2000, .inl g))]) [0, 1] rfl
      have hDc := hD.sub (ws' := [(h0, .inr (11, [y0, y1, y2, .ref hT, .int (nI n), .int (nI (k0 + 1)), y6])), (hT, .inl (cB, 2000, .inl g))]) [0, 1] (by decide) rfl
      have hKc := hK.sub (tys' := [(cB, .byte), (cI, .int), (cJ, .long), (cZ, .boolean)]) [0, 1, 2, 3] rfl
      have hFc := va_free (wc := [(h0, .inr (11, [y0, y1, y2, .ref hT, .int (nI n), .int (nI (k0 + 1)), y6])), (hT, .inl (cB, 2000, .inl g))]) hD hS hA [0, 1] rfl
      refine va_calli (va_runV (As := [.int (nI (k0 + 1))]) (rest := [.int 57]) ⟨hx, hb, hml, hown, hts⟩ (t_X10_byteAt l dC dI H.size cB cI cJ cZ h0 hT n (k0 + 1) g y0 y1 y2 y6 (k0 + 1) hn (by omega)) (cwV 1 hts (gd_all (in_V kw_512 kw_514 kw_2 kw_183 kc_X10_byteAt)) rfl rfl rfl (by decide +kernel) ⟨Nat.le_of_ble_eq_true rfl, Nat.le_of_ble_eq_true rfl⟩) ⟨fun a U g mk q => by obtain ⟨q0, q1, qP, qK, qD⟩ := q; exact ⟨q0, q1, qP, va_K.moved (u := U) (U := U.calling g mk a) (Vm.Alike.refl U.vm) qK, qD⟩, va_recv hKc hPc (ci := 11) (q0 := 0) rfl rfl, fun U hU hW => ⟨rfl, by rw [hU], by rw [hU]; exact hPc, va_K.moved hW.alike hKc, hDc.weaken (fun _ _ _ _ => trivial)⟩⟩ rfl rfl hl.1 rfl (lv_room (Nat.le_of_ble_eq_true rfl)) dX10_scanSign_46 ⟨Nat.le_of_ble_eq_true rfl, Nat.le_of_ble_eq_true rfl⟩) hS (fun q _ h => hFc q h) hFc (fun r_4 u t_ H1 locs ht hvm hw hB hz1 hk1 hS => ?_)
      obtain ⟨hP1, hK1, hD1⟩ := hB
      rw [ht] at hP1
      have hK1 := va_K.moved hvm.symm hK1
      obtain ⟨hP, hD⟩ := va_join (wr := []) (w1 := [(h0, .inr (11, [y0, y1, y2, .ref hT, .int (nI n), .int (nI (k0 + 1)), y6])), (hT, .inl (cB, 2000, .inl g))]) hP hD [0, 1] [] rfl rfl (by decide) (by decide) hk1 hFc hP1 hD1
      have hK := (hK.sub (tys' := []) [] rfl).app hK1
      generalize H1 = H at hP hS ⊢
      have hP : va_P (dC, dI) vwCl [(h0, .inr (11, [y0, y1, y2, .ref hT, .int (nI n), .int (nI (k0 + 1)), y6])), (hT, .inl (cB, 2000, .inl g))] H := hP
      have hD : va_D A [(h0, .inr (11, [y0, y1, y2, .ref hT, .int (nI n), .int (nI (k0 + 1)), y6])), (hT, .inl (cB, 2000, .inl g))] := hD
      have hK : va_K (dC, dI) vwCl [(cB, .byte), (cI, .int), (cJ, .long), (cZ, .boolean)] s := hK
      have er_4 : r_4 = btF g n (k0 + 1) := hw
      rw [er_4]
      have hPc := hP.sub (ws' := []) [] rfl
      have hDc := hD.sub (ws' := []) [] (by decide) rfl
      have hKc := hK.sub (tys' := [(cB, .byte), (cI, .int), (cJ, .long), (cZ, .boolean)]) [0, 1, 2, 3] rfl
      have hFc := va_free (wc := []) hD hS hA [] rfl
      refine va_calli (va_runS (As := [.int 57, .int (btF g n (k0 + 1))]) (rest := []) ⟨hx, hb, hml, hown, hts⟩ (t_longer l dC dI H.size cB cI cJ cZ 57 (btF g n (k0 + 1))) ⟨callB_of 2 hts (gd_all (in_I kc_X10_longerSign)) rfl rfl rfl (hts _ (List.mem_cons_of_mem _ kw_183)) (hts _ (List.mem_cons_of_mem _ kw_600)) (by decide +kernel) ⟨Nat.le_of_ble_eq_true rfl, Nat.le_of_ble_eq_true rfl⟩, hts _ (List.mem_cons_of_mem _ kw_601)⟩ ⟨fun a U g mk q => by obtain ⟨q0, q1, qP, qK, qD⟩ := q; exact ⟨q0, q1, qP, va_K.moved (u := U) (U := U.calling g mk a) (Vm.Alike.refl U.vm) qK, qD⟩, fun U hU hW => ⟨rfl, by rw [hU], by rw [hU]; exact hPc, va_K.moved hW.alike hKc, hDc.weaken (fun _ _ _ _ => trivial)⟩⟩ rfl rfl hl.1 rfl (lv_room (Nat.le_of_ble_eq_true rfl)) dX10_scanSign_49 ⟨Nat.le_of_ble_eq_true rfl, Nat.le_of_ble_eq_true rfl⟩) hS (fun q _ h => hFc q h) hFc (fun r_5 u t_ H1 locs ht hvm hw hB hz1 hk1 hS => ?_)
      obtain ⟨hP1, hK1, hD1⟩ := hB
      rw [ht] at hP1
      have hK1 := va_K.moved hvm.symm hK1
      obtain ⟨hP, hD⟩ := va_join (wr := [(h0, .inr (11, [y0, y1, y2, .ref hT, .int (nI n), .int (nI (k0 + 1)), y6])), (hT, .inl (cB, 2000, .inl g))]) (w1 := []) hP hD [] [0, 1] rfl rfl (by decide) (by decide) hk1 hFc hP1 hD1
      have hK := (hK.sub (tys' := []) [] rfl).app hK1
      generalize H1 = H at hP hS ⊢
      have hP : va_P (dC, dI) vwCl [(h0, .inr (11, [y0, y1, y2, .ref hT, .int (nI n), .int (nI (k0 + 1)), y6])), (hT, .inl (cB, 2000, .inl g))] H := hP
      have hD : va_D A [(h0, .inr (11, [y0, y1, y2, .ref hT, .int (nI n), .int (nI (k0 + 1)), y6])), (hT, .inl (cB, 2000, .inl g))] := hD
      have hK : va_K (dC, dI) vwCl [(cB, .byte), (cI, .int), (cJ, .long), (cZ, .boolean)] s := hK
      have er_5 : r_5 = lsI (57 : Int32) (btF g n (k0 + 1)) := hw
      rw [er_5]
      refine lv_istore (lv' := [(4, .int (lsI (57 : Int32) (btF g n (k0 + 1)))), (3, .int 57), (2, .int (-1)), (0, .ref h0), (1, .int x)]) hx hb dX10_scanSign_52 hl (by decide) rfl (fun ls hl => ?_)
      refine lv_iload hx hb dX10_scanSign_54 (lv_at hl 0 rfl) ?_
      refine lv_iload_n hx hb dX10_scanSign_56 rfl (lv_at hl 1 rfl) ?_
      refine lv_icmp_ne (tgt := 62) hx hb dX10_scanSign_57 (by decide) (fun c_6 => ?_) (fun c_6 => ?_)
      · skip
        refine lv_aload_n hx hb dX10_scanSign_62 rfl (lv_at hl 3 rfl) ?_
        refine lv_dup hx hb dX10_scanSign_63 rfl ?_
        refine va_get (D := (dC, dI)) (ci := 11) (v := .int (nI (k0 + 1))) (C := RX10) (T := TX10) (N := 7) hx hb hts (fun w h => List.mem_cons_of_mem _ (uG_X10 w h)) hown hK hP 0 rfl rfl 5 (by decide) (hts _ (List.mem_cons_of_mem _ kw_326)) (fun _ h9 => h9) rfl dX10_scanSign_64 ?_
        refine lv_iconst (v := 1) hx hb dX10_scanSign_67 (by decide) ?_
        refine lv_iadd hx hb dX10_scanSign_68 ?_
        refine lv_topi (fun x_7 ex_7 => ?_)
        have ex_7 : x_7 = nI (k0 + 1 + 1) := ex_7.trans (nI_add (k0 + 1) 1)
        subst ex_7
        refine va_put (D := (dC, dI)) (ci := 11) (v := .int (nI (k0 + 1 + 1))) (ty := .int) (C := RX10) (T := TX10) (N := 7) hx hb hts (fun w h => List.mem_cons_of_mem _ (uG_X10 w h)) tyX10 tyX10_ok nmX10 hown hK hP hD hS 0 rfl rfl 5 (by decide) (hts _ (List.mem_cons_of_mem _ kw_326)) (fun _ h9 => h9) rfl (by decide +kernel) rfl rfl (Nat.le_of_ble_eq_true rfl) dX10_scanSign_69 (fun H locs hP hD hS => ?_)
        have hP : va_P (dC, dI) vwCl [(h0, .inr (11, [y0, y1, y2, .ref hT, .int (nI n), .int (nI (k0 + 1 + 1)), y6])), (hT, .inl (cB, 2000, .inl g))] H := hP
        have hD : va_D A [(h0, .inr (11, [y0, y1, y2, .ref hT, .int (nI n), .int (nI (k0 + 1 + 1)), y6])), (hT, .inl (cB, 2000, .inl g))] := hD
        refine lv_iload hx hb dX10_scanSign_72 (lv_at hl 0 rfl) ?_
        have hP9 := hP.sub (ws' := [(h0, .inr (11, [y0, y1, y2, .ref hT, .int (nI n), .int (nI (k0 + 1 + 1)), y6])), (hT, .inl (cB, 2000, .inl g))]) [0, 1] rfl
        have hD9 := hD.sub (ws' := [(h0, .inr (11, [y0, y1, y2, .ref hT, .int (nI n), .int (nI (k0 + 1 + 1)), y6])), (hT, .inl (cB, 2000, .inl g))]) [0, 1] (by decide) rfl
        have hK9 := hK.sub (tys' := [(cB, .byte), (cI, .int), (cJ, .long), (cZ, .boolean)]) [0, 1, 2, 3] rfl
        exact W.iret (v := (lsI (57 : Int32) (btF g n (k0 + 1)))) hx hb hr (fun t_ ht hW => ⟨⟨(lsI (57 : Int32) (btF g n (k0 + 1))), k0 + 2, rfl, ⟨rfl, by unfold sgE; rw [if_neg c_6]⟩, by rw [ht]; exact hP9, va_K.moved hW.alike hK9, hD9⟩, hS.F ht⟩) hS.2.2 dX10_scanSign_74
      · skip
        refine lv_iload_n hx hb dX10_scanSign_60 rfl (lv_at hl 1 rfl) ?_
        have hP9 := hP.sub (ws' := [(h0, .inr (11, [y0, y1, y2, .ref hT, .int (nI n), .int (nI (k0 + 1)), y6])), (hT, .inl (cB, 2000, .inl g))]) [0, 1] rfl
        have hD9 := hD.sub (ws' := [(h0, .inr (11, [y0, y1, y2, .ref hT, .int (nI n), .int (nI (k0 + 1)), y6])), (hT, .inl (cB, 2000, .inl g))]) [0, 1] (by decide) rfl
        have hK9 := hK.sub (tys' := [(cB, .byte), (cI, .int), (cJ, .long), (cZ, .boolean)]) [0, 1, 2, 3] rfl
        exact W.iret (v := 57) hx hb hr (fun t_ ht hW => ⟨⟨57, k0 + 1, rfl, ⟨c_6.symm, by unfold sgE; rw [if_pos c_6]⟩, by rw [ht]; exact hP9, va_K.moved hW.alike hK9, hD9⟩, hS.F ht⟩) hS.2.2 dX10_scanSign_61
abbrev cs_t_sign_p (cB cI cJ cZ : ClassId) (h0 hT n k0 : Nat) (g : Nat → Int32) (y0 y1 y2 y6 : Value) (n1 : Nat) (K V : Nat → Nat) (fz : Value) : va_W := [(h0, .inr (11, [y0, y1, y2, .ref hT, .int (nI n), .int (nI k0), y6])), (hT, .inl (cB, 2000, .inl g))]
abbrev pc_t_sign_p (dC : Nat → ClassId) (dI : Nat → Nat → Nat) (sz : Nat) (cB cI cJ cZ : ClassId) (h0 hT n k0 : Nat) (g : Nat → Int32) (y0 y1 y2 y6 : Value) (n1 : Nat) (K V : Nat → Nat) (fz : Value) : Array Value → State → Prop := va_Pc [.ref h0, .int (nI n1)] (fun U => U.heap.size = sz ∧ va_P (dC, dI) vwCl [(h0, .inr (11, [y0, y1, y2, .ref hT, .int (nI n), .int (nI k0), y6])), (hT, .inl (cB, 2000, .inl g))] U.heap ∧ va_K (dC, dI) vwCl [(cB, .byte), (cI, .int), (cJ, .long), (cZ, .boolean)] U ∧ va_D (fun _ => True) [(h0, .inr (11, [y0, y1, y2, .ref hT, .int (nI n), .int (nI k0), y6])), (hT, .inl (cB, 2000, .inl g))] ∧ zE K V fz (va_A (cs_t_sign_p cB cI cJ cZ h0 hT n k0 g y0 y1 y2 y6 n1 K V fz) sz) U)
abbrev qc_t_sign_p (dC : Nat → ClassId) (dI : Nat → Nat → Nat) (cB cI cJ cZ : ClassId) (h0 hT n k0 : Nat) (g : Nat → Int32) (y0 y1 y2 y6 : Value) (n1 : Nat) (K V : Nat → Nat) (fz : Value) (A : Nat → Prop) : Array Value → State → Outcome → State → Prop := va_Qi (fun (r : Int32) (u : Nat) => match u with | k2 => r = lsI (sgN n1) (btF g n (k0 + 1)) ∧ k2 = sgE (sgN n1) (btF g n (k0 + 1)) k0) (fun (u : Nat) t_ => match u with | k2 => va_P (dC, dI) vwCl [(h0, .inr (11, [y0, y1, y2, .ref hT, .int (nI n), .int (nI k2), y6])), (hT, .inl (cB, 2000, .inl g))] t_.heap ∧ va_K (dC, dI) vwCl [(cB, .byte), (cI, .int), (cJ, .long), (cZ, .boolean)] t_ ∧ va_D A [(h0, .inr (11, [y0, y1, y2, .ref hT, .int (nI n), .int (nI k2), y6])), (hT, .inl (cB, 2000, .inl g))]) A
set_option maxHeartbeats 4000000 in
set_option maxRecDepth 100000 in
theorem t_sign_p (l : Launch) (dC : Nat → ClassId) (dI : Nat → Nat → Nat) (sz : Nat) (cB cI cJ cZ : ClassId) (h0 hT n k0 : Nat) (g : Nat → Int32) (y0 y1 y2 y6 : Value) (n1 : Nat) (K V : Nat → Nat) (fz : Value) (hn : n ≤ 2000) (hk0 : k0 ≤ 2000) (hn1 : n1 < 128) : Met l yX10_scanSign (wsOf yX10_scanSign cX10_scanSign 5 (some .int)) ({ frames := 5, cells := 0, slots := 0, locals := 300 }) (pc_t_sign_p dC dI sz cB cI cJ cZ h0 hT n k0 g y0 y1 y2 y6 n1 K V fz) (qc_t_sign_p dC dI cB cI cJ cZ h0 hT n k0 g y0 y1 y2 y6 n1 K V fz (va_A (cs_t_sign_p cB cI cJ cZ h0 hT n k0 g y0 y1 y2 y6 n1 K V fz) sz)) 0 0 (va_A (cs_t_sign_p cB cI cJ cZ h0 hT n k0 g y0 y1 y2 y6 n1 K V fz) sz) := by
  refine Met.ofW (cc := cX10_scanSign) (maxL := 5) (ret := (some .int)) (by decide) rfl ?_
  intro p e s m args below meth c s₁ B hml hv
  obtain ⟨rfl, hsz, hP, hK, hD0, hZ⟩ := hv
  have hx := B.exec
  have hb := B.bytes
  have hr := B.returns
  have hts := atoms_spec (ws := (wsOf yX10_scanSign cX10_scanSign 5 (some .int))) B.pre
  have hown : s.vm.findClass RX10 = some m.cls := findClass_of_methodNamed B.named
  have hlocks := B.notSynchronized
  subst hsz
  have hD := hD0.self (sz := s.heap.size)
  generalize hAe : va_A (cs_t_sign_p cB cI cJ cZ h0 hT n k0 g y0 y1 y2 y6 n1 K V fz) s.heap.size = A at hD hZ ⊢
  have hA : ∀ q : Nat, s.heap.size ≤ q → A q := fun q h => by rw [← hAe]; exact Or.inr h
  have hS : va_S A s.heap s.heap [] := va_S.rf
  have hP : va_P (dC, dI) vwCl [(h0, .inr (11, [y0, y1, y2, .ref hT, .int (nI n), .int (nI k0), y6])), (hT, .inl (cB, 2000, .inl g))] s.heap := hP
  have hl := lv_entry ([.ref h0, .int (nI n1)]) (n := 5) (Nat.le_of_ble_eq_true rfl)
  rw [lg_entry_eq]
  generalize (lg_sl ([.ref h0, .int (nI n1)]) ++ List.replicate (5 - (lg_sl ([.ref h0, .int (nI n1)])).length) Slot.unset).toArray = ls at hl ⊢
  have hl : lv_has ls 5 [(0, .ref h0), (1, .int (nI n1))] := hl
  refine lv_iload_n hx hb dX10_scanSign_0 rfl (lv_at hl 1 rfl) ?_
  refine lv_if_ge (tgt := 8) hx hb dX10_scanSign_1 (by decide) (fun c_1 => ?_) (fun c_1 => ?_)
  · skip
    have c_1 : 0 ≤ n1 := (nI_leI (a := 0) (b := n1) (by omega) (by omega)).mp c_1
    refine va_ldcS (own := RX10) (index := 99) (tx := soT 1) (q := K 1) hx hb hown (hZ.ref 1 (by decide)) dX10_scanSign_8 ?_
    refine lv_iload_n hx hb dX10_scanSign_10 rfl (lv_at hl 1 rfl) ?_
    refine lv_i2c hx hb dX10_scanSign_11 rfl ?_
    refine lv_topi (fun x_2 ex_2 => ?_)
    have ex_2 : x_2 = nI n1 := by exact ex_2.trans (sb_byte n1 (by omega)).2.1
    subst ex_2
    have hPc := hP.sub (ws' := []) [] rfl
    have hDc := hD.sub (ws' := []) [] (by decide) rfl
    have hKc := hK.sub (tys' := [(cB, .byte), (cI, .int), (cJ, .long), (cZ, .boolean)]) [0, 1, 2, 3] rfl
    have hFc := va_free (wc := []) hD hS hA [] rfl
    refine va_calli (va_runV (As := [.int (nI n1)]) (rest := []) ⟨hx, hb, hml, hown, hts⟩ (t_indexOf l dC dI s.heap.size cB cI cJ cZ 1 n1 K V fz (by decide) (by omega) (by decide)) (cwV 1 hts (gd_all (in_V kw_545 kw_546 kw_547 kw_184 kc_J0_indexOf_0f7a4)) rfl rfl rfl (by decide +kernel) ⟨Nat.le_of_ble_eq_true rfl, Nat.le_of_ble_eq_true rfl⟩) ⟨fun a U g mk q => by obtain ⟨q0, q1, qP, qK, qD, qZ⟩ := q; exact ⟨q0, q1, qP, va_K.moved (u := U) (U := U.calling g mk a) (Vm.Alike.refl U.vm) qK, qD, zE.same (u := U) (U := U.calling g mk a) rfl rfl qZ⟩, zE.recv hZ (by decide) hS, fun U hU hW => ⟨rfl, by rw [hU], by rw [hU]; exact hPc, va_K.moved hW.alike hKc, hDc.weaken (fun _ _ _ _ => trivial), zE.go hZ hS hU hW hFc⟩⟩ rfl rfl hl.1 rfl (lv_room (Nat.le_of_ble_eq_true rfl)) dX10_scanSign_12 ⟨Nat.le_of_ble_eq_true rfl, Nat.le_of_ble_eq_true rfl⟩) hS (fun q _ h => hFc q h) hFc (fun r_3 u t_ H1 locs ht hvm hw hB hz1 hk1 hS => ?_)
    obtain ⟨hP1, hK1, hD1⟩ := hB
    rw [ht] at hP1
    have hK1 := va_K.moved hvm.symm hK1
    obtain ⟨hP, hD⟩ := va_join (wr := [(h0, .inr (11, [y0, y1, y2, .ref hT, .int (nI n), .int (nI k0), y6])), (hT, .inl (cB, 2000, .inl g))]) (w1 := []) hP hD [] [0, 1] rfl rfl (by decide) (by decide) hk1 hFc hP1 hD1
    have hK := (hK.sub (tys' := []) [] rfl).app hK1
    generalize H1 = H at hP hS ⊢
    have hP : va_P (dC, dI) vwCl [(h0, .inr (11, [y0, y1, y2, .ref hT, .int (nI n), .int (nI k0), y6])), (hT, .inl (cB, 2000, .inl g))] H := hP
    have hD : va_D A [(h0, .inr (11, [y0, y1, y2, .ref hT, .int (nI n), .int (nI k0), y6])), (hT, .inl (cB, 2000, .inl g))] := hD
    have hK : va_K (dC, dI) vwCl [(cB, .byte), (cI, .int), (cJ, .long), (cZ, .boolean)] s := hK
    have er_3 : r_3 = ixN 1 n1 12 0 := hw
    rw [er_3]
    refine lv_istore_n (lv' := [(2, .int (ixN 1 n1 12 0)), (0, .ref h0), (1, .int (nI n1))]) hx hb dX10_scanSign_15 rfl hl (by decide) rfl (fun ls hl => ?_)
    have mg_4 : ∀ (H : Heap) (locs : List Loc), va_P (dC, dI) vwCl [(h0, .inr (11, [y0, y1, y2, .ref hT, .int (nI n), .int (nI k0), y6])), (hT, .inl (cB, 2000, .inl g))] H → va_D A [(h0, .inr (11, [y0, y1, y2, .ref hT, .int (nI n), .int (nI k0), y6])), (hT, .inl (cB, 2000, .inl g))] → va_S A s.heap H locs → W p l e (headSpec (wsOf yX10_scanSign cX10_scanSign 5 (some .int)) ({ frames := 5, cells := 0, slots := 0, locals := 300 })).room s m ([.ref h0, .int (nI n1)] : List Value).toArray below meth c H locs 0 0 (MQ below (qc_t_sign_p dC dI cB cI cJ cZ h0 hT n k0 g y0 y1 y2 y6 n1 K V fz A) ([.ref h0, .int (nI n1)] : List Value).toArray s 0 0 A) (F0 m 29 ls [.int (sgN n1)]) := by
      intro H locs hP hD hS
      refine lv_istore_n (lv' := [(3, .int (sgN n1)), (2, .int (ixN 1 n1 12 0)), (0, .ref h0), (1, .int (nI n1))]) hx hb dX10_scanSign_29 rfl hl (by decide) rfl (fun ls hl => ?_)
      refine lv_aload_n hx hb dX10_scanSign_30 rfl (lv_at hl 2 rfl) ?_
      refine lv_dup hx hb dX10_scanSign_31 rfl ?_
      refine va_get (D := (dC, dI)) (ci := 11) (v := .int (nI k0)) (C := RX10) (T := TX10) (N := 7) hx hb hts (fun w h => List.mem_cons_of_mem _ (uG_X10 w h)) hown hK hP 0 rfl rfl 5 (by decide) (hts _ (List.mem_cons_of_mem _ kw_326)) (fun _ h9 => h9) rfl dX10_scanSign_32 ?_
      refine lv_iconst (v := 1) hx hb dX10_scanSign_35 (by decide) ?_
      refine lv_iadd hx hb dX10_scanSign_36 ?_
      refine lv_topi (fun x_5 ex_5 => ?_)
      have ex_5 : x_5 = nI (k0 + 1) := ex_5.trans (nI_add k0 1)
      subst ex_5
      refine va_put (D := (dC, dI)) (ci := 11) (v := .int (nI (k0 + 1))) (ty := .int) (C := RX10) (T := TX10) (N := 7) hx hb hts (fun w h => List.mem_cons_of_mem _ (uG_X10 w h)) tyX10 tyX10_ok nmX10 hown hK hP hD hS 0 rfl rfl 5 (by decide) (hts _ (List.mem_cons_of_mem _ kw_326)) (fun _ h9 => h9) rfl (by decide +kernel) rfl rfl (Nat.le_of_ble_eq_true rfl) dX10_scanSign_37 (fun H locs hP hD hS => ?_)
      have hP : va_P (dC, dI) vwCl [(h0, .inr (11, [y0, y1, y2, .ref hT, .int (nI n), .int (nI (k0 + 1)), y6])), (hT, .inl (cB, 2000, .inl g))] H := hP
      have hD : va_D A [(h0, .inr (11, [y0, y1, y2, .ref hT, .int (nI n), .int (nI (k0 + 1)), y6])), (hT, .inl (cB, 2000, .inl g))] := hD
      refine lv_iload_n hx hb dX10_scanSign_40 rfl (lv_at hl 0 rfl) ?_
      refine lv_aload_n hx hb dX10_scanSign_41 rfl (lv_at hl 2 rfl) ?_
      refine lv_aload_n hx hb dX10_scanSign_42 rfl (lv_at hl 2 rfl) ?_
      refine va_get (D := (dC, dI)) (ci := 11) (v := .int (nI (k0 + 1))) (C := RX10) (T := TX10) (N := 7) hx hb hts (fun w h => List.mem_cons_of_mem _ (uG_X10 w h)) hown hK hP 0 rfl rfl 5 (by decide) (hts _ (List.mem_cons_of_mem _ kw_326)) (fun _ h9 => h9) rfl dX10_scanSign_43 ?_
      have hPc := hP.sub (ws' := [(h0, .inr (11, [y0, y1, y2, .ref hT, .int (nI n), .int (nI (k0 + 1)), y6])), (hT, .inl (cB, 2000, .inl g))]) [0, 1] rfl
      have hDc := hD.sub (ws' := [(h0, .inr (11, [y0, y1, y2, .ref hT, .int (nI n), .int (nI (k0 + 1)), y6])), (hT, .inl (cB, 2000, .inl g))]) [0, 1] (by decide) rfl
      have hKc := hK.sub (tys' := [(cB, .byte), (cI, .int), (cJ, .long), (cZ, .boolean)]) [0, 1, 2, 3] rfl
      have hFc := va_free (wc := [(h0, .inr (11, [y0, y1, y2, .ref hT, .int (nI n), .int (nI (k0 + 1)), y6])), (hT, .inl (cB, 2000, .inl g))]) hD hS hA [0, 1] rfl
      refine va_calli (va_runV (As := [.int (nI (k0 + 1))]) (rest := [.int (sgN n1)]) ⟨hx, hb, hml, hown, hts⟩ (t_X10_byteAt l dC dI H.size cB cI cJ cZ h0 hT n (k0 + 1) g y0 y1 y2 y6 (k0 + 1) hn (by omega)) (cwV 1 hts (gd_all (in_V kw_512 kw_514 kw_2 kw_183 kc_X10_byteAt)) rfl rfl rfl (by decide +kernel) ⟨Nat.le_of_ble_eq_true rfl, Nat.le_of_ble_eq_true rfl⟩) ⟨fun a U g mk q => by obtain ⟨q0, q1, qP, qK, qD⟩ := q; exact ⟨q0, q1, qP, va_K.moved (u := U) (U := U.calling g mk a) (Vm.Alike.refl U.vm) qK, qD⟩, va_recv hKc hPc (ci := 11) (q0 := 0) rfl rfl, fun U hU hW => ⟨rfl, by rw [hU], by rw [hU]; exact hPc, va_K.moved hW.alike hKc, hDc.weaken (fun _ _ _ _ => trivial)⟩⟩ rfl rfl hl.1 rfl (lv_room (Nat.le_of_ble_eq_true rfl)) dX10_scanSign_46 ⟨Nat.le_of_ble_eq_true rfl, Nat.le_of_ble_eq_true rfl⟩) hS (fun q _ h => hFc q h) hFc (fun r_6 u t_ H1 locs ht hvm hw hB hz1 hk1 hS => ?_)
      obtain ⟨hP1, hK1, hD1⟩ := hB
      rw [ht] at hP1
      have hK1 := va_K.moved hvm.symm hK1
      obtain ⟨hP, hD⟩ := va_join (wr := []) (w1 := [(h0, .inr (11, [y0, y1, y2, .ref hT, .int (nI n), .int (nI (k0 + 1)), y6])), (hT, .inl (cB, 2000, .inl g))]) hP hD [0, 1] [] rfl rfl (by decide) (by decide) hk1 hFc hP1 hD1
      have hK := (hK.sub (tys' := []) [] rfl).app hK1
      generalize H1 = H at hP hS ⊢
      have hP : va_P (dC, dI) vwCl [(h0, .inr (11, [y0, y1, y2, .ref hT, .int (nI n), .int (nI (k0 + 1)), y6])), (hT, .inl (cB, 2000, .inl g))] H := hP
      have hD : va_D A [(h0, .inr (11, [y0, y1, y2, .ref hT, .int (nI n), .int (nI (k0 + 1)), y6])), (hT, .inl (cB, 2000, .inl g))] := hD
      have hK : va_K (dC, dI) vwCl [(cB, .byte), (cI, .int), (cJ, .long), (cZ, .boolean)] s := hK
      have er_6 : r_6 = btF g n (k0 + 1) := hw
      rw [er_6]
      have hPc := hP.sub (ws' := []) [] rfl
      have hDc := hD.sub (ws' := []) [] (by decide) rfl
      have hKc := hK.sub (tys' := [(cB, .byte), (cI, .int), (cJ, .long), (cZ, .boolean)]) [0, 1, 2, 3] rfl
      have hFc := va_free (wc := []) hD hS hA [] rfl
      refine va_calli (va_runS (As := [.int (sgN n1), .int (btF g n (k0 + 1))]) (rest := []) ⟨hx, hb, hml, hown, hts⟩ (t_longer l dC dI H.size cB cI cJ cZ (sgN n1) (btF g n (k0 + 1))) ⟨callB_of 2 hts (gd_all (in_I kc_X10_longerSign)) rfl rfl rfl (hts _ (List.mem_cons_of_mem _ kw_183)) (hts _ (List.mem_cons_of_mem _ kw_600)) (by decide +kernel) ⟨Nat.le_of_ble_eq_true rfl, Nat.le_of_ble_eq_true rfl⟩, hts _ (List.mem_cons_of_mem _ kw_601)⟩ ⟨fun a U g mk q => by obtain ⟨q0, q1, qP, qK, qD⟩ := q; exact ⟨q0, q1, qP, va_K.moved (u := U) (U := U.calling g mk a) (Vm.Alike.refl U.vm) qK, qD⟩, fun U hU hW => ⟨rfl, by rw [hU], by rw [hU]; exact hPc, va_K.moved hW.alike hKc, hDc.weaken (fun _ _ _ _ => trivial)⟩⟩ rfl rfl hl.1 rfl (lv_room (Nat.le_of_ble_eq_true rfl)) dX10_scanSign_49 ⟨Nat.le_of_ble_eq_true rfl, Nat.le_of_ble_eq_true rfl⟩) hS (fun q _ h => hFc q h) hFc (fun r_7 u t_ H1 locs ht hvm hw hB hz1 hk1 hS => ?_)
      obtain ⟨hP1, hK1, hD1⟩ := hB
      rw [ht] at hP1
      have hK1 := va_K.moved hvm.symm hK1
      obtain ⟨hP, hD⟩ := va_join (wr := [(h0, .inr (11, [y0, y1, y2, .ref hT, .int (nI n), .int (nI (k0 + 1)), y6])), (hT, .inl (cB, 2000, .inl g))]) (w1 := []) hP hD [] [0, 1] rfl rfl (by decide) (by decide) hk1 hFc hP1 hD1
      have hK := (hK.sub (tys' := []) [] rfl).app hK1
      generalize H1 = H at hP hS ⊢
      have hP : va_P (dC, dI) vwCl [(h0, .inr (11, [y0, y1, y2, .ref hT, .int (nI n), .int (nI (k0 + 1)), y6])), (hT, .inl (cB, 2000, .inl g))] H := hP
      have hD : va_D A [(h0, .inr (11, [y0, y1, y2, .ref hT, .int (nI n), .int (nI (k0 + 1)), y6])), (hT, .inl (cB, 2000, .inl g))] := hD
      have hK : va_K (dC, dI) vwCl [(cB, .byte), (cI, .int), (cJ, .long), (cZ, .boolean)] s := hK
      have er_7 : r_7 = lsI (sgN n1) (btF g n (k0 + 1)) := hw
      rw [er_7]
      refine lv_istore (lv' := [(4, .int (lsI (sgN n1) (btF g n (k0 + 1)))), (3, .int (sgN n1)), (2, .int (ixN 1 n1 12 0)), (0, .ref h0), (1, .int (nI n1))]) hx hb dX10_scanSign_52 hl (by decide) rfl (fun ls hl => ?_)
      refine lv_iload hx hb dX10_scanSign_54 (lv_at hl 0 rfl) ?_
      refine lv_iload_n hx hb dX10_scanSign_56 rfl (lv_at hl 1 rfl) ?_
      refine lv_icmp_ne (tgt := 62) hx hb dX10_scanSign_57 (by decide) (fun c_8 => ?_) (fun c_8 => ?_)
      · skip
        refine lv_aload_n hx hb dX10_scanSign_62 rfl (lv_at hl 3 rfl) ?_
        refine lv_dup hx hb dX10_scanSign_63 rfl ?_
        refine va_get (D := (dC, dI)) (ci := 11) (v := .int (nI (k0 + 1))) (C := RX10) (T := TX10) (N := 7) hx hb hts (fun w h => List.mem_cons_of_mem _ (uG_X10 w h)) hown hK hP 0 rfl rfl 5 (by decide) (hts _ (List.mem_cons_of_mem _ kw_326)) (fun _ h9 => h9) rfl dX10_scanSign_64 ?_
        refine lv_iconst (v := 1) hx hb dX10_scanSign_67 (by decide) ?_
        refine lv_iadd hx hb dX10_scanSign_68 ?_
        refine lv_topi (fun x_9 ex_9 => ?_)
        have ex_9 : x_9 = nI (k0 + 1 + 1) := ex_9.trans (nI_add (k0 + 1) 1)
        subst ex_9
        refine va_put (D := (dC, dI)) (ci := 11) (v := .int (nI (k0 + 1 + 1))) (ty := .int) (C := RX10) (T := TX10) (N := 7) hx hb hts (fun w h => List.mem_cons_of_mem _ (uG_X10 w h)) tyX10 tyX10_ok nmX10 hown hK hP hD hS 0 rfl rfl 5 (by decide) (hts _ (List.mem_cons_of_mem _ kw_326)) (fun _ h9 => h9) rfl (by decide +kernel) rfl rfl (Nat.le_of_ble_eq_true rfl) dX10_scanSign_69 (fun H locs hP hD hS => ?_)
        have hP : va_P (dC, dI) vwCl [(h0, .inr (11, [y0, y1, y2, .ref hT, .int (nI n), .int (nI (k0 + 1 + 1)), y6])), (hT, .inl (cB, 2000, .inl g))] H := hP
        have hD : va_D A [(h0, .inr (11, [y0, y1, y2, .ref hT, .int (nI n), .int (nI (k0 + 1 + 1)), y6])), (hT, .inl (cB, 2000, .inl g))] := hD
        refine lv_iload hx hb dX10_scanSign_72 (lv_at hl 0 rfl) ?_
        have hP9 := hP.sub (ws' := [(h0, .inr (11, [y0, y1, y2, .ref hT, .int (nI n), .int (nI (k0 + 1 + 1)), y6])), (hT, .inl (cB, 2000, .inl g))]) [0, 1] rfl
        have hD9 := hD.sub (ws' := [(h0, .inr (11, [y0, y1, y2, .ref hT, .int (nI n), .int (nI (k0 + 1 + 1)), y6])), (hT, .inl (cB, 2000, .inl g))]) [0, 1] (by decide) rfl
        have hK9 := hK.sub (tys' := [(cB, .byte), (cI, .int), (cJ, .long), (cZ, .boolean)]) [0, 1, 2, 3] rfl
        exact W.iret (v := (lsI (sgN n1) (btF g n (k0 + 1)))) hx hb hr (fun t_ ht hW => ⟨⟨(lsI (sgN n1) (btF g n (k0 + 1))), k0 + 2, rfl, ⟨rfl, by unfold sgE; rw [if_neg c_8]⟩, by rw [ht]; exact hP9, va_K.moved hW.alike hK9, hD9⟩, hS.F ht⟩) hS.2.2 dX10_scanSign_74
      · skip
        refine lv_iload_n hx hb dX10_scanSign_60 rfl (lv_at hl 1 rfl) ?_
        have hP9 := hP.sub (ws' := [(h0, .inr (11, [y0, y1, y2, .ref hT, .int (nI n), .int (nI (k0 + 1)), y6])), (hT, .inl (cB, 2000, .inl g))]) [0, 1] rfl
        have hD9 := hD.sub (ws' := [(h0, .inr (11, [y0, y1, y2, .ref hT, .int (nI n), .int (nI (k0 + 1)), y6])), (hT, .inl (cB, 2000, .inl g))]) [0, 1] (by decide) rfl
        have hK9 := hK.sub (tys' := [(cB, .byte), (cI, .int), (cJ, .long), (cZ, .boolean)]) [0, 1, 2, 3] rfl
        exact W.iret (v := (sgN n1)) hx hb hr (fun t_ ht hW => ⟨⟨(sgN n1), k0 + 1, rfl, ⟨c_8.symm, by unfold sgE; rw [if_pos c_8]⟩, by rw [ht]; exact hP9, va_K.moved hW.alike hK9, hD9⟩, hS.F ht⟩) hS.2.2 dX10_scanSign_61
    refine lv_iload_n hx hb dX10_scanSign_16 rfl (lv_at hl 0 rfl) ?_
    refine lv_if_ge (tgt := 25) hx hb dX10_scanSign_17 (by decide) (fun c_10 => ?_) (fun c_10 => ?_)
    · skip
      refine lv_bipush (v := 41) hx hb dX10_scanSign_25 (by decide) ?_
      refine lv_iload_n hx hb dX10_scanSign_27 rfl (lv_at hl 0 rfl) ?_
      refine lv_iadd hx hb dX10_scanSign_28 ?_
      exact W.eq (by unfold sgN; rw [if_pos c_10]) (mg_4 _ _ hP hD hS)
    · skip
      refine lv_bipush (v := 57) hx hb dX10_scanSign_20 (by decide) ?_
      refine lv_goto (tgt := 29) hx hb dX10_scanSign_22 (by decide) ?_
      exact W.eq (by unfold sgN; rw [if_neg c_10]) (mg_4 _ _ hP hD hS)
  · skip
    have c_1 : ¬ (0 ≤ n1) := fun h => c_1 ((nI_leI (a := 0) (b := n1) (by omega) (by omega)).mpr h)
    exact absurd c_1 (by omega)
abbrev cs_t_X10_scanSign (cB cI cJ cZ : ClassId) (h0 hT n k0 : Nat) (g : Nat → Int32) (y0 y1 y2 y6 : Value) (x : Int32) (K V : Nat → Nat) (fz : Value) : va_W := [(h0, .inr (11, [y0, y1, y2, .ref hT, .int (nI n), .int (nI k0), y6])), (hT, .inl (cB, 2000, .inl g))]
abbrev pc_t_X10_scanSign (dC : Nat → ClassId) (dI : Nat → Nat → Nat) (sz : Nat) (cB cI cJ cZ : ClassId) (h0 hT n k0 : Nat) (g : Nat → Int32) (y0 y1 y2 y6 : Value) (x : Int32) (K V : Nat → Nat) (fz : Value) : Array Value → State → Prop := va_Pc [.ref h0, .int x] (fun U => U.heap.size = sz ∧ va_P (dC, dI) vwCl [(h0, .inr (11, [y0, y1, y2, .ref hT, .int (nI n), .int (nI k0), y6])), (hT, .inl (cB, 2000, .inl g))] U.heap ∧ va_K (dC, dI) vwCl [(cB, .byte), (cI, .int), (cJ, .long), (cZ, .boolean)] U ∧ va_D (fun _ => True) [(h0, .inr (11, [y0, y1, y2, .ref hT, .int (nI n), .int (nI k0), y6])), (hT, .inl (cB, 2000, .inl g))] ∧ zE K V fz (va_A (cs_t_X10_scanSign cB cI cJ cZ h0 hT n k0 g y0 y1 y2 y6 x K V fz) sz) U)
abbrev qc_t_X10_scanSign (dC : Nat → ClassId) (dI : Nat → Nat → Nat) (cB cI cJ cZ : ClassId) (h0 hT n k0 : Nat) (g : Nat → Int32) (y0 y1 y2 y6 : Value) (x : Int32) (K V : Nat → Nat) (fz : Value) (A : Nat → Prop) : Array Value → State → Outcome → State → Prop := va_Qi (fun (r : Int32) (u : Nat) => match u with | k2 => r = lsI (sgK x) (btF g n (k0 + 1)) ∧ k2 = sgE (sgK x) (btF g n (k0 + 1)) k0) (fun (u : Nat) t_ => match u with | k2 => va_P (dC, dI) vwCl [(h0, .inr (11, [y0, y1, y2, .ref hT, .int (nI n), .int (nI k2), y6])), (hT, .inl (cB, 2000, .inl g))] t_.heap ∧ va_K (dC, dI) vwCl [(cB, .byte), (cI, .int), (cJ, .long), (cZ, .boolean)] t_ ∧ va_D A [(h0, .inr (11, [y0, y1, y2, .ref hT, .int (nI n), .int (nI k2), y6])), (hT, .inl (cB, 2000, .inl g))]) A
set_option maxHeartbeats 4000000 in
set_option maxRecDepth 100000 in
theorem t_X10_scanSign (l : Launch) (dC : Nat → ClassId) (dI : Nat → Nat → Nat) (sz : Nat) (cB cI cJ cZ : ClassId) (h0 hT n k0 : Nat) (g : Nat → Int32) (y0 y1 y2 y6 : Value) (x : Int32) (K V : Nat → Nat) (fz : Value) (hn : n ≤ 2000) (hk0 : k0 ≤ 2000) (hfx : fits .byte (.int x) = true) : Met l yX10_scanSign (wsOf yX10_scanSign cX10_scanSign 5 (some .int)) ({ frames := 5, cells := 0, slots := 0, locals := 300 }) (pc_t_X10_scanSign dC dI sz cB cI cJ cZ h0 hT n k0 g y0 y1 y2 y6 x K V fz) (qc_t_X10_scanSign dC dI cB cI cJ cZ h0 hT n k0 g y0 y1 y2 y6 x K V fz (va_A (cs_t_X10_scanSign cB cI cJ cZ h0 hT n k0 g y0 y1 y2 y6 x K V fz) sz)) 0 0 (va_A (cs_t_X10_scanSign cB cI cJ cZ h0 hT n k0 g y0 y1 y2 y6 x K V fz) sz) := by
  by_cases h1 : x < 0
  · have e : sgK x = 57 := if_pos h1
    unfold qc_t_X10_scanSign; rw [e]; exact t_sign_n l dC dI sz cB cI cJ cZ h0 hT n k0 g y0 y1 y2 y6 x K V fz hn hk0 h1
  · obtain ⟨n1, hn1, rfl⟩ := fb_n hfx h1
    have e : sgK (nI n1) = sgN n1 := (if_neg h1).trans (congrArg sgN (nI_clamp (by omega)))
    unfold qc_t_X10_scanSign; rw [e]; exact t_sign_p l dC dI sz cB cI cJ cZ h0 hT n k0 g y0 y1 y2 y6 n1 K V fz hn hk0 hn1

