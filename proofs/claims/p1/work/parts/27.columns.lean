theorem dX2_init_0 : decode cX2_init 0 = .ok (.aload_n 0, 1) := by decide +kernel
theorem dX2_init_1 : decode cX2_init 1 = .ok (.invokespecial 3, 3) := by decide +kernel
theorem dX2_init_4 : decode cX2_init 4 = .ok (.aload_n 0, 1) := by decide +kernel
theorem dX2_init_5 : decode cX2_init 5 = .ok (.bipush 8, 2) := by decide +kernel
theorem dX2_init_7 : decode cX2_init 7 = .ok (.newarray .int, 2) := by decide +kernel
theorem dX2_init_9 : decode cX2_init 9 = .ok (.putfield 9, 3) := by decide +kernel
theorem dX2_init_12 : decode cX2_init 12 = .ok (.aload_n 0, 1) := by decide +kernel
theorem dX2_init_13 : decode cX2_init 13 = .ok (.bipush 8, 2) := by decide +kernel
theorem dX2_init_15 : decode cX2_init 15 = .ok (.newarray .long, 2) := by decide +kernel
theorem dX2_init_17 : decode cX2_init 17 = .ok (.putfield 15, 3) := by decide +kernel
theorem dX2_init_20 : decode cX2_init 20 = .ok (.aload_n 0, 1) := by decide +kernel
theorem dX2_init_21 : decode cX2_init 21 = .ok (.bipush 8, 2) := by decide +kernel
theorem dX2_init_23 : decode cX2_init 23 = .ok (.newarray .int, 2) := by decide +kernel
theorem dX2_init_25 : decode cX2_init 25 = .ok (.putfield 19, 3) := by decide +kernel
theorem dX2_init_28 : decode cX2_init 28 = .ok (.aload_n 0, 1) := by decide +kernel
theorem dX2_init_29 : decode cX2_init 29 = .ok (.bipush 8, 2) := by decide +kernel
theorem dX2_init_31 : decode cX2_init 31 = .ok (.newarray .int, 2) := by decide +kernel
theorem dX2_init_33 : decode cX2_init 33 = .ok (.putfield 22, 3) := by decide +kernel
theorem dX2_init_36 : decode cX2_init 36 = .ok (.return_, 1) := by decide +kernel
abbrev cs_t_X2_init (cB cI cJ cZ : ClassId) (h0 : Nat) : va_W := [(h0, .inr (3, [.int 0, .null, .null, .null, .null]))]
abbrev pc_t_X2_init (dC : Nat → ClassId) (dI : Nat → Nat → Nat) (sz : Nat) (cB cI cJ cZ : ClassId) (h0 : Nat) : Array Value → State → Prop := va_Pc [.ref h0] (fun U => U.heap.size = sz ∧ va_P (dC, dI) vwCl [(h0, .inr (3, [.int 0, .null, .null, .null, .null]))] U.heap ∧ va_K (dC, dI) vwCl [(cB, .byte), (cI, .int), (cJ, .long), (cZ, .boolean)] U ∧ va_D (fun _ => True) [(h0, .inr (3, [.int 0, .null, .null, .null, .null]))])
abbrev qc_t_X2_init (dC : Nat → ClassId) (dI : Nat → Nat → Nat) (cB cI cJ cZ : ClassId) (h0 : Nat) (A : Nat → Prop) : Array Value → State → Outcome → State → Prop := va_Qv (fun (u : Unit) => match u with | _ => True) (fun (u : Unit) t_ => match u with | _ => ∃ (q1 q2 q3 q4 : Nat), va_P (dC, dI) vwCl [(h0, .inr (3, [.int 0, .ref q1, .ref q2, .ref q3, .ref q4])), (q1, .inl (cI, 8, .inl (fun _ => 0))), (q2, .inl (cJ, 8, .inr (.inl (fun _ => 0)))), (q3, .inl (cI, 8, .inl (fun _ => 0))), (q4, .inl (cI, 8, .inl (fun _ => 0)))] t_.heap ∧ va_K (dC, dI) vwCl [(cB, .byte), (cI, .int), (cJ, .long), (cZ, .boolean)] t_ ∧ va_D A [(h0, .inr (3, [.int 0, .ref q1, .ref q2, .ref q3, .ref q4])), (q1, .inl (cI, 8, .inl (fun _ => 0))), (q2, .inl (cJ, 8, .inr (.inl (fun _ => 0)))), (q3, .inl (cI, 8, .inl (fun _ => 0))), (q4, .inl (cI, 8, .inl (fun _ => 0)))]) A
set_option maxHeartbeats 4000000 in
set_option maxRecDepth 100000 in
theorem t_X2_init (l : Launch) (dC : Nat → ClassId) (dI : Nat → Nat → Nat) (sz : Nat) (cB cI cJ cZ : ClassId) (h0 : Nat)  : Met l yX2_init (wsOf yX2_init cX2_init 1 none) ({ frames := 1, cells := 4, slots := 32, locals := 60 }) (pc_t_X2_init dC dI sz cB cI cJ cZ h0) (qc_t_X2_init dC dI cB cI cJ cZ h0 (va_A (cs_t_X2_init cB cI cJ cZ h0) sz)) 4 32 (va_A (cs_t_X2_init cB cI cJ cZ h0) sz) := by
  refine Met.ofW (cc := cX2_init) (maxL := 1) (ret := none) (by decide) rfl ?_
  intro p e s m args below meth c s₁ B hml hv
  obtain ⟨rfl, hsz, hP, hK, hD0⟩ := hv
  have hx := B.exec
  have hb := B.bytes
  have hr := B.returns
  have hts := atoms_spec (ws := (wsOf yX2_init cX2_init 1 none)) B.pre
  have hown : s.vm.findClass RX2 = some m.cls := findClass_of_methodNamed B.named
  have hlocks := B.notSynchronized
  have hin : meth.name = "<init>" := (name_of_methodNamed B.named B.method).1
  subst hsz
  have hD := hD0.self (sz := s.heap.size)
  generalize hAe : va_A (cs_t_X2_init cB cI cJ cZ h0) s.heap.size = A at hD ⊢
  have hA : ∀ q : Nat, s.heap.size ≤ q → A q := fun q h => by rw [← hAe]; exact Or.inr h
  have hS : va_S A s.heap s.heap [] := va_S.rf
  have hP : va_P (dC, dI) vwCl [(h0, .inr (3, [.int 0, .null, .null, .null, .null]))] s.heap := hP
  have hl := lv_entry ([.ref h0]) (n := 1) (Nat.le_of_ble_eq_true rfl)
  rw [lg_entry_eq]
  generalize (lg_sl ([.ref h0]) ++ List.replicate (1 - (lg_sl ([.ref h0])).length) Slot.unset).toArray = ls at hl ⊢
  have hl : lv_has ls 1 [(0, .ref h0)] := hl
  refine lv_aload_n hx hb dX2_init_0 rfl (lv_at hl 0 rfl) ?_
  refine W.objInit hx hb hown (hts _ (List.mem_cons_of_mem _ kw_627)) (hts _ (List.mem_cons_of_mem _ kw_214)) (hts _ (List.mem_cons_of_mem _ kc_objectInit)) rfl (by rw [hml]; exact hl.1) rfl dX2_init_1 (Nat.le_of_ble_eq_true rfl) (Nat.le_of_ble_eq_true rfl) ?_
  refine W.eq (g2 := F0 m 4 ls []) rfl ?_
  refine lv_aload_n hx hb dX2_init_4 rfl (lv_at hl 0 rfl) ?_
  refine lv_bipush (v := 8) hx hb dX2_init_5 (by decide) ?_
  refine va_newa (atype := .int) (ty := .int) (a0 := (8, .inl (fun _ => 0))) hx hb (hts _ (List.mem_cons_of_mem _ kn_I)) rfl hK hP hD hS hA (n := 8) (N' := 8) (fun _ => rfl) (by decide) (by decide) (by decide) (Nat.le_of_ble_eq_true rfl) (Nat.le_of_ble_eq_true rfl) dX2_init_7 (fun q1 cA1 H hK1 hP hD hS => ?_)
  rw [va_sameI hK1 4 1 rfl rfl] at hP hD
  have hP : va_P (dC, dI) vwCl [(h0, .inr (3, [.int 0, .null, .null, .null, .null])), (q1, .inl (cI, 8, .inl (fun _ => 0)))] H := hP
  have hD : va_D A [(h0, .inr (3, [.int 0, .null, .null, .null, .null])), (q1, .inl (cI, 8, .inl (fun _ => 0)))] := hD
  refine W.widen (k := 1) (n := 8) (Nat.le_of_ble_eq_true rfl) (Nat.le_of_ble_eq_true rfl) ?_
  refine va_putF (D := (dC, dI)) (ci := 3) (v := .ref q1) (ty := .array .int) (C := RX2) (T := TX2) (N := 5) hx hb hts (fun w h => List.mem_cons_of_mem _ (uG_X2 w h)) tyX2 tyX2_ok nmX2 hown hK hP hD hS 0 rfl rfl 1 (by decide) (hts _ (List.mem_cons_of_mem _ kw_633)) (fun _ h9 => h9) rfl hin rfl (by decide +kernel) rfl rfl (Nat.le_of_ble_eq_true rfl) dX2_init_9 (fun H locs hP hD hS => ?_)
  have hP : va_P (dC, dI) vwCl [(h0, .inr (3, [.int 0, .ref q1, .null, .null, .null])), (q1, .inl (cI, 8, .inl (fun _ => 0)))] H := hP
  have hD : va_D A [(h0, .inr (3, [.int 0, .ref q1, .null, .null, .null])), (q1, .inl (cI, 8, .inl (fun _ => 0)))] := hD
  refine lv_aload_n hx hb dX2_init_12 rfl (lv_at hl 0 rfl) ?_
  refine lv_bipush (v := 8) hx hb dX2_init_13 (by decide) ?_
  refine va_newa (atype := .long) (ty := .long) (a0 := (8, .inr (.inl (fun _ => 0)))) hx hb (hts _ (List.mem_cons_of_mem _ kn_J)) rfl hK hP hD hS hA (n := 8) (N' := 8) (fun _ => rfl) (by decide) (by decide) (by decide) (Nat.le_of_ble_eq_true rfl) (Nat.le_of_ble_eq_true rfl) dX2_init_15 (fun q2 cA2 H hK2 hP hD hS => ?_)
  rw [va_sameJ hK2 4 2 rfl rfl] at hP hD
  have hP : va_P (dC, dI) vwCl [(h0, .inr (3, [.int 0, .ref q1, .null, .null, .null])), (q1, .inl (cI, 8, .inl (fun _ => 0))), (q2, .inl (cJ, 8, .inr (.inl (fun _ => 0))))] H := hP
  have hD : va_D A [(h0, .inr (3, [.int 0, .ref q1, .null, .null, .null])), (q1, .inl (cI, 8, .inl (fun _ => 0))), (q2, .inl (cJ, 8, .inr (.inl (fun _ => 0))))] := hD
  refine W.widen (k := 2) (n := 16) (Nat.le_of_ble_eq_true rfl) (Nat.le_of_ble_eq_true rfl) ?_
  refine va_putF (D := (dC, dI)) (ci := 3) (v := .ref q2) (ty := .array .long) (C := RX2) (T := TX2) (N := 5) hx hb hts (fun w h => List.mem_cons_of_mem _ (uG_X2 w h)) tyX2 tyX2_ok nmX2 hown hK hP hD hS 0 rfl rfl 2 (by decide) (hts _ (List.mem_cons_of_mem _ kw_636)) (fun _ h9 => h9) rfl hin rfl (by decide +kernel) rfl rfl (Nat.le_of_ble_eq_true rfl) dX2_init_17 (fun H locs hP hD hS => ?_)
  have hP : va_P (dC, dI) vwCl [(h0, .inr (3, [.int 0, .ref q1, .ref q2, .null, .null])), (q1, .inl (cI, 8, .inl (fun _ => 0))), (q2, .inl (cJ, 8, .inr (.inl (fun _ => 0))))] H := hP
  have hD : va_D A [(h0, .inr (3, [.int 0, .ref q1, .ref q2, .null, .null])), (q1, .inl (cI, 8, .inl (fun _ => 0))), (q2, .inl (cJ, 8, .inr (.inl (fun _ => 0))))] := hD
  refine lv_aload_n hx hb dX2_init_20 rfl (lv_at hl 0 rfl) ?_
  refine lv_bipush (v := 8) hx hb dX2_init_21 (by decide) ?_
  refine va_newa (atype := .int) (ty := .int) (a0 := (8, .inl (fun _ => 0))) hx hb (hts _ (List.mem_cons_of_mem _ kn_I)) rfl hK hP hD hS hA (n := 8) (N' := 8) (fun _ => rfl) (by decide) (by decide) (by decide) (Nat.le_of_ble_eq_true rfl) (Nat.le_of_ble_eq_true rfl) dX2_init_23 (fun q3 cA3 H hK3 hP hD hS => ?_)
  rw [va_sameI hK3 4 1 rfl rfl] at hP hD
  have hP : va_P (dC, dI) vwCl [(h0, .inr (3, [.int 0, .ref q1, .ref q2, .null, .null])), (q1, .inl (cI, 8, .inl (fun _ => 0))), (q2, .inl (cJ, 8, .inr (.inl (fun _ => 0)))), (q3, .inl (cI, 8, .inl (fun _ => 0)))] H := hP
  have hD : va_D A [(h0, .inr (3, [.int 0, .ref q1, .ref q2, .null, .null])), (q1, .inl (cI, 8, .inl (fun _ => 0))), (q2, .inl (cJ, 8, .inr (.inl (fun _ => 0)))), (q3, .inl (cI, 8, .inl (fun _ => 0)))] := hD
  refine W.widen (k := 3) (n := 24) (Nat.le_of_ble_eq_true rfl) (Nat.le_of_ble_eq_true rfl) ?_
  refine va_putF (D := (dC, dI)) (ci := 3) (v := .ref q3) (ty := .array .int) (C := RX2) (T := TX2) (N := 5) hx hb hts (fun w h => List.mem_cons_of_mem _ (uG_X2 w h)) tyX2 tyX2_ok nmX2 hown hK hP hD hS 0 rfl rfl 3 (by decide) (hts _ (List.mem_cons_of_mem _ kw_638)) (fun _ h9 => h9) rfl hin rfl (by decide +kernel) rfl rfl (Nat.le_of_ble_eq_true rfl) dX2_init_25 (fun H locs hP hD hS => ?_)
  have hP : va_P (dC, dI) vwCl [(h0, .inr (3, [.int 0, .ref q1, .ref q2, .ref q3, .null])), (q1, .inl (cI, 8, .inl (fun _ => 0))), (q2, .inl (cJ, 8, .inr (.inl (fun _ => 0)))), (q3, .inl (cI, 8, .inl (fun _ => 0)))] H := hP
  have hD : va_D A [(h0, .inr (3, [.int 0, .ref q1, .ref q2, .ref q3, .null])), (q1, .inl (cI, 8, .inl (fun _ => 0))), (q2, .inl (cJ, 8, .inr (.inl (fun _ => 0)))), (q3, .inl (cI, 8, .inl (fun _ => 0)))] := hD
  refine lv_aload_n hx hb dX2_init_28 rfl (lv_at hl 0 rfl) ?_
  refine lv_bipush (v := 8) hx hb dX2_init_29 (by decide) ?_
  refine va_newa (atype := .int) (ty := .int) (a0 := (8, .inl (fun _ => 0))) hx hb (hts _ (List.mem_cons_of_mem _ kn_I)) rfl hK hP hD hS hA (n := 8) (N' := 8) (fun _ => rfl) (by decide) (by decide) (by decide) (Nat.le_of_ble_eq_true rfl) (Nat.le_of_ble_eq_true rfl) dX2_init_31 (fun q4 cA4 H hK4 hP hD hS => ?_)
  rw [va_sameI hK4 4 1 rfl rfl] at hP hD
  have hP : va_P (dC, dI) vwCl [(h0, .inr (3, [.int 0, .ref q1, .ref q2, .ref q3, .null])), (q1, .inl (cI, 8, .inl (fun _ => 0))), (q2, .inl (cJ, 8, .inr (.inl (fun _ => 0)))), (q3, .inl (cI, 8, .inl (fun _ => 0))), (q4, .inl (cI, 8, .inl (fun _ => 0)))] H := hP
  have hD : va_D A [(h0, .inr (3, [.int 0, .ref q1, .ref q2, .ref q3, .null])), (q1, .inl (cI, 8, .inl (fun _ => 0))), (q2, .inl (cJ, 8, .inr (.inl (fun _ => 0)))), (q3, .inl (cI, 8, .inl (fun _ => 0))), (q4, .inl (cI, 8, .inl (fun _ => 0)))] := hD
  refine W.widen (k := 4) (n := 32) (Nat.le_of_ble_eq_true rfl) (Nat.le_of_ble_eq_true rfl) ?_
  refine va_putF (D := (dC, dI)) (ci := 3) (v := .ref q4) (ty := .array .int) (C := RX2) (T := TX2) (N := 5) hx hb hts (fun w h => List.mem_cons_of_mem _ (uG_X2 w h)) tyX2 tyX2_ok nmX2 hown hK hP hD hS 0 rfl rfl 4 (by decide) (hts _ (List.mem_cons_of_mem _ kw_640)) (fun _ h9 => h9) rfl hin rfl (by decide +kernel) rfl rfl (Nat.le_of_ble_eq_true rfl) dX2_init_33 (fun H locs hP hD hS => ?_)
  have hP : va_P (dC, dI) vwCl [(h0, .inr (3, [.int 0, .ref q1, .ref q2, .ref q3, .ref q4])), (q1, .inl (cI, 8, .inl (fun _ => 0))), (q2, .inl (cJ, 8, .inr (.inl (fun _ => 0)))), (q3, .inl (cI, 8, .inl (fun _ => 0))), (q4, .inl (cI, 8, .inl (fun _ => 0)))] H := hP
  have hD : va_D A [(h0, .inr (3, [.int 0, .ref q1, .ref q2, .ref q3, .ref q4])), (q1, .inl (cI, 8, .inl (fun _ => 0))), (q2, .inl (cJ, 8, .inr (.inl (fun _ => 0)))), (q3, .inl (cI, 8, .inl (fun _ => 0))), (q4, .inl (cI, 8, .inl (fun _ => 0)))] := hD
  have hP9 := hP.sub (ws' := [(h0, .inr (3, [.int 0, .ref q1, .ref q2, .ref q3, .ref q4])), (q1, .inl (cI, 8, .inl (fun _ => 0))), (q2, .inl (cJ, 8, .inr (.inl (fun _ => 0)))), (q3, .inl (cI, 8, .inl (fun _ => 0))), (q4, .inl (cI, 8, .inl (fun _ => 0)))]) [0, 1, 2, 3, 4] rfl
  have hD9 := hD.sub (ws' := [(h0, .inr (3, [.int 0, .ref q1, .ref q2, .ref q3, .ref q4])), (q1, .inl (cI, 8, .inl (fun _ => 0))), (q2, .inl (cJ, 8, .inr (.inl (fun _ => 0)))), (q3, .inl (cI, 8, .inl (fun _ => 0))), (q4, .inl (cI, 8, .inl (fun _ => 0)))]) [0, 1, 2, 3, 4] (by decide) rfl
  have hK9 := hK.sub (tys' := [(cB, .byte), (cI, .int), (cJ, .long), (cZ, .boolean)]) [0, 1, 2, 3] rfl
  refine W.widen (k := 4) (n := 32) (Nat.le_of_ble_eq_true rfl) (Nat.le_of_ble_eq_true rfl) ?_
  exact W.vret hx hb hr (fun t_ ht hW => ⟨⟨(), rfl, trivial, q1, q2, q3, q4, by rw [ht]; exact hP9, va_K.moved hW.alike hK9, hD9⟩, hS.F ht⟩) hS.2.2 dX2_init_36
theorem dX2_isFull_0 : decode cX2_isFull 0 = .ok (.aload_n 0, 1) := by decide +kernel
theorem dX2_isFull_1 : decode cX2_isFull 1 = .ok (.getfield 25, 3) := by decide +kernel
theorem dX2_isFull_4 : decode cX2_isFull 4 = .ok (.bipush 8, 2) := by decide +kernel
theorem dX2_isFull_6 : decode cX2_isFull 6 = .ok (.if_icmp .lt 7, 3) := by decide +kernel
theorem dX2_isFull_9 : decode cX2_isFull 9 = .ok (.iconst 1, 1) := by decide +kernel
theorem dX2_isFull_10 : decode cX2_isFull 10 = .ok (.goto 4, 3) := by decide +kernel
theorem dX2_isFull_13 : decode cX2_isFull 13 = .ok (.iconst 0, 1) := by decide +kernel
theorem dX2_isFull_14 : decode cX2_isFull 14 = .ok (.ireturn, 1) := by decide +kernel
abbrev cs_t_X2_isFull (cB cI cJ cZ : ClassId) (h0 hR hM hMk hT s1 : Nat) (rt : Nat → Int32) (nn : Nat → Int64) (mk ty : Nat → Int32) : va_W := [(h0, .inr (3, [.int (nI s1), .ref hR, .ref hM, .ref hMk, .ref hT])), (hR, .inl (cI, 8, .inl rt)), (hM, .inl (cJ, 8, .inr (.inl nn))), (hMk, .inl (cI, 8, .inl mk)), (hT, .inl (cI, 8, .inl ty))]
abbrev pc_t_X2_isFull (dC : Nat → ClassId) (dI : Nat → Nat → Nat) (sz : Nat) (cB cI cJ cZ : ClassId) (h0 hR hM hMk hT s1 : Nat) (rt : Nat → Int32) (nn : Nat → Int64) (mk ty : Nat → Int32) : Array Value → State → Prop := va_Pc [.ref h0] (fun U => U.heap.size = sz ∧ va_P (dC, dI) vwCl [(h0, .inr (3, [.int (nI s1), .ref hR, .ref hM, .ref hMk, .ref hT])), (hR, .inl (cI, 8, .inl rt)), (hM, .inl (cJ, 8, .inr (.inl nn))), (hMk, .inl (cI, 8, .inl mk)), (hT, .inl (cI, 8, .inl ty))] U.heap ∧ va_K (dC, dI) vwCl [(cB, .byte), (cI, .int), (cJ, .long), (cZ, .boolean)] U ∧ va_D (fun _ => True) [(h0, .inr (3, [.int (nI s1), .ref hR, .ref hM, .ref hMk, .ref hT])), (hR, .inl (cI, 8, .inl rt)), (hM, .inl (cJ, 8, .inr (.inl nn))), (hMk, .inl (cI, 8, .inl mk)), (hT, .inl (cI, 8, .inl ty))])
abbrev qc_t_X2_isFull (dC : Nat → ClassId) (dI : Nat → Nat → Nat) (cB cI cJ cZ : ClassId) (h0 hR hM hMk hT s1 : Nat) (rt : Nat → Int32) (nn : Nat → Int64) (mk ty : Nat → Int32) (A : Nat → Prop) : Array Value → State → Outcome → State → Prop := va_Qi (fun (r : Int32) (u : Unit) => match u with | _ => r = if s1 < 8 then 0 else 1) (fun (u : Unit) t_ => match u with | _ => va_P (dC, dI) vwCl [(h0, .inr (3, [.int (nI s1), .ref hR, .ref hM, .ref hMk, .ref hT])), (hR, .inl (cI, 8, .inl rt)), (hM, .inl (cJ, 8, .inr (.inl nn))), (hMk, .inl (cI, 8, .inl mk)), (hT, .inl (cI, 8, .inl ty))] t_.heap ∧ va_K (dC, dI) vwCl [(cB, .byte), (cI, .int), (cJ, .long), (cZ, .boolean)] t_ ∧ va_D A [(h0, .inr (3, [.int (nI s1), .ref hR, .ref hM, .ref hMk, .ref hT])), (hR, .inl (cI, 8, .inl rt)), (hM, .inl (cJ, 8, .inr (.inl nn))), (hMk, .inl (cI, 8, .inl mk)), (hT, .inl (cI, 8, .inl ty))]) A
set_option maxHeartbeats 4000000 in
set_option maxRecDepth 100000 in
theorem t_X2_isFull (l : Launch) (dC : Nat → ClassId) (dI : Nat → Nat → Nat) (sz : Nat) (cB cI cJ cZ : ClassId) (h0 hR hM hMk hT s1 : Nat) (rt : Nat → Int32) (nn : Nat → Int64) (mk ty : Nat → Int32) (hs : s1 ≤ 8) : Met l yX2_isFull (wsOf yX2_isFull cX2_isFull 1 (some .boolean)) ({ frames := 0, cells := 0, slots := 0, locals := 0 }) (pc_t_X2_isFull dC dI sz cB cI cJ cZ h0 hR hM hMk hT s1 rt nn mk ty) (qc_t_X2_isFull dC dI cB cI cJ cZ h0 hR hM hMk hT s1 rt nn mk ty (va_A (cs_t_X2_isFull cB cI cJ cZ h0 hR hM hMk hT s1 rt nn mk ty) sz)) 0 0 (va_A (cs_t_X2_isFull cB cI cJ cZ h0 hR hM hMk hT s1 rt nn mk ty) sz) := by
  refine Met.ofW (cc := cX2_isFull) (maxL := 1) (ret := (some .boolean)) (by decide) rfl ?_
  intro p e s m args below meth c s₁ B hml hv
  obtain ⟨rfl, hsz, hP, hK, hD0⟩ := hv
  have hx := B.exec
  have hb := B.bytes
  have hr := B.returns
  have hts := atoms_spec (ws := (wsOf yX2_isFull cX2_isFull 1 (some .boolean))) B.pre
  have hown : s.vm.findClass RX2 = some m.cls := findClass_of_methodNamed B.named
  have hlocks := B.notSynchronized
  subst hsz
  have hD := hD0.self (sz := s.heap.size)
  generalize hAe : va_A (cs_t_X2_isFull cB cI cJ cZ h0 hR hM hMk hT s1 rt nn mk ty) s.heap.size = A at hD ⊢
  have hA : ∀ q : Nat, s.heap.size ≤ q → A q := fun q h => by rw [← hAe]; exact Or.inr h
  have hS : va_S A s.heap s.heap [] := va_S.rf
  have hP : va_P (dC, dI) vwCl [(h0, .inr (3, [.int (nI s1), .ref hR, .ref hM, .ref hMk, .ref hT])), (hR, .inl (cI, 8, .inl rt)), (hM, .inl (cJ, 8, .inr (.inl nn))), (hMk, .inl (cI, 8, .inl mk)), (hT, .inl (cI, 8, .inl ty))] s.heap := hP
  have hl := lv_entry ([.ref h0]) (n := 1) (Nat.le_of_ble_eq_true rfl)
  rw [lg_entry_eq]
  generalize (lg_sl ([.ref h0]) ++ List.replicate (1 - (lg_sl ([.ref h0])).length) Slot.unset).toArray = ls at hl ⊢
  have hl : lv_has ls 1 [(0, .ref h0)] := hl
  refine lv_aload_n hx hb dX2_isFull_0 rfl (lv_at hl 0 rfl) ?_
  refine va_get (D := (dC, dI)) (ci := 3) (v := .int (nI s1)) (C := RX2) (T := TX2) (N := 5) hx hb hts (fun w h => List.mem_cons_of_mem _ (uG_X2 w h)) hown hK hP 0 rfl rfl 0 (by decide) (hts _ (List.mem_cons_of_mem _ kw_628)) (fun _ h9 => h9) rfl dX2_isFull_1 ?_
  refine lv_bipush (v := 8) hx hb dX2_isFull_4 (by decide) ?_
  refine lv_icmp_lt (tgt := 13) hx hb dX2_isFull_6 (by decide) (fun c_1 => ?_) (fun c_1 => ?_)
  · skip
    have c_1 : s1 < 8 := (nI_ltI (a := s1) (b := 8) (by omega) (by omega)).mp c_1
    refine lv_iconst (v := 0) hx hb dX2_isFull_13 (by decide) ?_
    have hP9 := hP.sub (ws' := [(h0, .inr (3, [.int (nI s1), .ref hR, .ref hM, .ref hMk, .ref hT])), (hR, .inl (cI, 8, .inl rt)), (hM, .inl (cJ, 8, .inr (.inl nn))), (hMk, .inl (cI, 8, .inl mk)), (hT, .inl (cI, 8, .inl ty))]) [0, 1, 2, 3, 4] rfl
    have hD9 := hD.sub (ws' := [(h0, .inr (3, [.int (nI s1), .ref hR, .ref hM, .ref hMk, .ref hT])), (hR, .inl (cI, 8, .inl rt)), (hM, .inl (cJ, 8, .inr (.inl nn))), (hMk, .inl (cI, 8, .inl mk)), (hT, .inl (cI, 8, .inl ty))]) [0, 1, 2, 3, 4] (by decide) rfl
    have hK9 := hK.sub (tys' := [(cB, .byte), (cI, .int), (cJ, .long), (cZ, .boolean)]) [0, 1, 2, 3] rfl
    exact W.zret (v := 0) hx hb hr (by rfl) (fun t_ ht hW => ⟨⟨0, (), rfl, by rw [if_pos c_1], by rw [ht]; exact hP9, va_K.moved hW.alike hK9, hD9⟩, hS.F ht⟩) hS.2.2 dX2_isFull_14
  · skip
    have c_1 : ¬ (s1 < 8) := fun h => c_1 ((nI_ltI (a := s1) (b := 8) (by omega) (by omega)).mpr h)
    refine lv_iconst (v := 1) hx hb dX2_isFull_9 (by decide) ?_
    refine lv_goto (tgt := 14) hx hb dX2_isFull_10 (by decide) ?_
    have hP9 := hP.sub (ws' := [(h0, .inr (3, [.int (nI s1), .ref hR, .ref hM, .ref hMk, .ref hT])), (hR, .inl (cI, 8, .inl rt)), (hM, .inl (cJ, 8, .inr (.inl nn))), (hMk, .inl (cI, 8, .inl mk)), (hT, .inl (cI, 8, .inl ty))]) [0, 1, 2, 3, 4] rfl
    have hD9 := hD.sub (ws' := [(h0, .inr (3, [.int (nI s1), .ref hR, .ref hM, .ref hMk, .ref hT])), (hR, .inl (cI, 8, .inl rt)), (hM, .inl (cJ, 8, .inr (.inl nn))), (hMk, .inl (cI, 8, .inl mk)), (hT, .inl (cI, 8, .inl ty))]) [0, 1, 2, 3, 4] (by decide) rfl
    have hK9 := hK.sub (tys' := [(cB, .byte), (cI, .int), (cJ, .long), (cZ, .boolean)]) [0, 1, 2, 3] rfl
    exact W.zret (v := 1) hx hb hr (by rfl) (fun t_ ht hW => ⟨⟨1, (), rfl, by rw [if_neg c_1], by rw [ht]; exact hP9, va_K.moved hW.alike hK9, hD9⟩, hS.F ht⟩) hS.2.2 dX2_isFull_14
theorem dX2_add_0 : decode cX2_add 0 = .ok (.aload_n 0, 1) := by decide +kernel
theorem dX2_add_1 : decode cX2_add 1 = .ok (.invokevirtual 29, 3) := by decide +kernel
theorem dX2_add_4 : decode cX2_add 4 = .ok (.ifCond .eq 4, 3) := by decide +kernel
theorem dX2_add_8 : decode cX2_add 8 = .ok (.aload_n 0, 1) := by decide +kernel
theorem dX2_add_9 : decode cX2_add 9 = .ok (.getfield 9, 3) := by decide +kernel
theorem dX2_add_12 : decode cX2_add 12 = .ok (.aload_n 0, 1) := by decide +kernel
theorem dX2_add_13 : decode cX2_add 13 = .ok (.getfield 25, 3) := by decide +kernel
theorem dX2_add_16 : decode cX2_add 16 = .ok (.iload_n 1, 1) := by decide +kernel
theorem dX2_add_17 : decode cX2_add 17 = .ok (.iastore, 1) := by decide +kernel
theorem dX2_add_18 : decode cX2_add 18 = .ok (.aload_n 0, 1) := by decide +kernel
theorem dX2_add_19 : decode cX2_add 19 = .ok (.getfield 15, 3) := by decide +kernel
theorem dX2_add_22 : decode cX2_add 22 = .ok (.aload_n 0, 1) := by decide +kernel
theorem dX2_add_23 : decode cX2_add 23 = .ok (.getfield 25, 3) := by decide +kernel
theorem dX2_add_26 : decode cX2_add 26 = .ok (.lload_n 2, 1) := by decide +kernel
theorem dX2_add_27 : decode cX2_add 27 = .ok (.lastore, 1) := by decide +kernel
theorem dX2_add_28 : decode cX2_add 28 = .ok (.aload_n 0, 1) := by decide +kernel
theorem dX2_add_29 : decode cX2_add 29 = .ok (.getfield 19, 3) := by decide +kernel
theorem dX2_add_32 : decode cX2_add 32 = .ok (.aload_n 0, 1) := by decide +kernel
theorem dX2_add_33 : decode cX2_add 33 = .ok (.getfield 25, 3) := by decide +kernel
theorem dX2_add_36 : decode cX2_add 36 = .ok (.iload 4, 2) := by decide +kernel
theorem dX2_add_38 : decode cX2_add 38 = .ok (.iastore, 1) := by decide +kernel
theorem dX2_add_39 : decode cX2_add 39 = .ok (.aload_n 0, 1) := by decide +kernel
theorem dX2_add_40 : decode cX2_add 40 = .ok (.getfield 22, 3) := by decide +kernel
theorem dX2_add_43 : decode cX2_add 43 = .ok (.aload_n 0, 1) := by decide +kernel
theorem dX2_add_44 : decode cX2_add 44 = .ok (.getfield 25, 3) := by decide +kernel
theorem dX2_add_47 : decode cX2_add 47 = .ok (.iload 5, 2) := by decide +kernel
theorem dX2_add_49 : decode cX2_add 49 = .ok (.iastore, 1) := by decide +kernel
theorem dX2_add_50 : decode cX2_add 50 = .ok (.aload_n 0, 1) := by decide +kernel
theorem dX2_add_51 : decode cX2_add 51 = .ok (.dup, 1) := by decide +kernel
theorem dX2_add_52 : decode cX2_add 52 = .ok (.getfield 25, 3) := by decide +kernel
theorem dX2_add_55 : decode cX2_add 55 = .ok (.iconst 1, 1) := by decide +kernel
theorem dX2_add_56 : decode cX2_add 56 = .ok (.iadd, 1) := by decide +kernel
theorem dX2_add_57 : decode cX2_add 57 = .ok (.putfield 25, 3) := by decide +kernel
theorem dX2_add_60 : decode cX2_add 60 = .ok (.return_, 1) := by decide +kernel
abbrev cs_t_X2_add (cB cI cJ cZ : ClassId) (h0 hR hM hMk hT s1 : Nat) (rt : Nat → Int32) (nn : Nat → Int64) (mk ty : Nat → Int32) (x1 : Int32) (x2 : Int64) (x3 x4 : Int32) : va_W := [(h0, .inr (3, [.int (nI s1), .ref hR, .ref hM, .ref hMk, .ref hT])), (hR, .inl (cI, 8, .inl rt)), (hM, .inl (cJ, 8, .inr (.inl nn))), (hMk, .inl (cI, 8, .inl mk)), (hT, .inl (cI, 8, .inl ty))]
abbrev pc_t_X2_add (dC : Nat → ClassId) (dI : Nat → Nat → Nat) (sz : Nat) (cB cI cJ cZ : ClassId) (h0 hR hM hMk hT s1 : Nat) (rt : Nat → Int32) (nn : Nat → Int64) (mk ty : Nat → Int32) (x1 : Int32) (x2 : Int64) (x3 x4 : Int32) : Array Value → State → Prop := va_Pc [.ref h0, .int x1, .long x2, .int x3, .int x4] (fun U => U.heap.size = sz ∧ va_P (dC, dI) vwCl [(h0, .inr (3, [.int (nI s1), .ref hR, .ref hM, .ref hMk, .ref hT])), (hR, .inl (cI, 8, .inl rt)), (hM, .inl (cJ, 8, .inr (.inl nn))), (hMk, .inl (cI, 8, .inl mk)), (hT, .inl (cI, 8, .inl ty))] U.heap ∧ va_K (dC, dI) vwCl [(cB, .byte), (cI, .int), (cJ, .long), (cZ, .boolean)] U ∧ va_D (fun _ => True) [(h0, .inr (3, [.int (nI s1), .ref hR, .ref hM, .ref hMk, .ref hT])), (hR, .inl (cI, 8, .inl rt)), (hM, .inl (cJ, 8, .inr (.inl nn))), (hMk, .inl (cI, 8, .inl mk)), (hT, .inl (cI, 8, .inl ty))])
abbrev qc_t_X2_add (dC : Nat → ClassId) (dI : Nat → Nat → Nat) (cB cI cJ cZ : ClassId) (h0 hR hM hMk hT s1 : Nat) (rt : Nat → Int32) (nn : Nat → Int64) (mk ty : Nat → Int32) (x1 : Int32) (x2 : Int64) (x3 x4 : Int32) (A : Nat → Prop) : Array Value → State → Outcome → State → Prop := va_Qv (fun (u : Unit) => match u with | _ => True) (fun (u : Unit) t_ => match u with | _ => va_P (dC, dI) vwCl [(h0, .inr (3, [.int (nI (s1 + 1)), .ref hR, .ref hM, .ref hMk, .ref hT])), (hR, .inl (cI, 8, .inl (upd rt s1 x1))), (hM, .inl (cJ, 8, .inr (.inl (vp_updL nn s1 x2)))), (hMk, .inl (cI, 8, .inl (upd mk s1 x3))), (hT, .inl (cI, 8, .inl (upd ty s1 x4)))] t_.heap ∧ va_K (dC, dI) vwCl [(cB, .byte), (cI, .int), (cJ, .long), (cZ, .boolean)] t_ ∧ va_D A [(h0, .inr (3, [.int (nI (s1 + 1)), .ref hR, .ref hM, .ref hMk, .ref hT])), (hR, .inl (cI, 8, .inl (upd rt s1 x1))), (hM, .inl (cJ, 8, .inr (.inl (vp_updL nn s1 x2)))), (hMk, .inl (cI, 8, .inl (upd mk s1 x3))), (hT, .inl (cI, 8, .inl (upd ty s1 x4)))]) A
set_option maxHeartbeats 4000000 in
set_option maxRecDepth 100000 in
theorem t_X2_add (l : Launch) (dC : Nat → ClassId) (dI : Nat → Nat → Nat) (sz : Nat) (cB cI cJ cZ : ClassId) (h0 hR hM hMk hT s1 : Nat) (rt : Nat → Int32) (nn : Nat → Int64) (mk ty : Nat → Int32) (x1 : Int32) (x2 : Int64) (x3 x4 : Int32) (hs : s1 < 8) : Met l yX2_add (wsOf yX2_add cX2_add 6 none) ({ frames := 1, cells := 0, slots := 0, locals := 60 }) (pc_t_X2_add dC dI sz cB cI cJ cZ h0 hR hM hMk hT s1 rt nn mk ty x1 x2 x3 x4) (qc_t_X2_add dC dI cB cI cJ cZ h0 hR hM hMk hT s1 rt nn mk ty x1 x2 x3 x4 (va_A (cs_t_X2_add cB cI cJ cZ h0 hR hM hMk hT s1 rt nn mk ty x1 x2 x3 x4) sz)) 0 0 (va_A (cs_t_X2_add cB cI cJ cZ h0 hR hM hMk hT s1 rt nn mk ty x1 x2 x3 x4) sz) := by
  refine Met.ofW (cc := cX2_add) (maxL := 6) (ret := none) (by decide) rfl ?_
  intro p e s m args below meth c s₁ B hml hv
  obtain ⟨rfl, hsz, hP, hK, hD0⟩ := hv
  have hx := B.exec
  have hb := B.bytes
  have hr := B.returns
  have hts := atoms_spec (ws := (wsOf yX2_add cX2_add 6 none)) B.pre
  have hown : s.vm.findClass RX2 = some m.cls := findClass_of_methodNamed B.named
  have hlocks := B.notSynchronized
  subst hsz
  have hD := hD0.self (sz := s.heap.size)
  generalize hAe : va_A (cs_t_X2_add cB cI cJ cZ h0 hR hM hMk hT s1 rt nn mk ty x1 x2 x3 x4) s.heap.size = A at hD ⊢
  have hA : ∀ q : Nat, s.heap.size ≤ q → A q := fun q h => by rw [← hAe]; exact Or.inr h
  have hS : va_S A s.heap s.heap [] := va_S.rf
  have hP : va_P (dC, dI) vwCl [(h0, .inr (3, [.int (nI s1), .ref hR, .ref hM, .ref hMk, .ref hT])), (hR, .inl (cI, 8, .inl rt)), (hM, .inl (cJ, 8, .inr (.inl nn))), (hMk, .inl (cI, 8, .inl mk)), (hT, .inl (cI, 8, .inl ty))] s.heap := hP
  have hl := lv_entry ([.ref h0, .int x1, .long x2, .int x3, .int x4]) (n := 6) (Nat.le_of_ble_eq_true rfl)
  rw [lg_entry_eq]
  generalize (lg_sl ([.ref h0, .int x1, .long x2, .int x3, .int x4]) ++ List.replicate (6 - (lg_sl ([.ref h0, .int x1, .long x2, .int x3, .int x4])).length) Slot.unset).toArray = ls at hl ⊢
  have hl : lv_has ls 6 [(0, .ref h0), (1, .int x1), (2, .long x2), (4, .int x3), (5, .int x4)] := hl
  refine lv_aload_n hx hb dX2_add_0 rfl (lv_at hl 0 rfl) ?_
  have hPc := hP.sub (ws' := [(h0, .inr (3, [.int (nI s1), .ref hR, .ref hM, .ref hMk, .ref hT])), (hR, .inl (cI, 8, .inl rt)), (hM, .inl (cJ, 8, .inr (.inl nn))), (hMk, .inl (cI, 8, .inl mk)), (hT, .inl (cI, 8, .inl ty))]) [0, 1, 2, 3, 4] rfl
  have hDc := hD.sub (ws' := [(h0, .inr (3, [.int (nI s1), .ref hR, .ref hM, .ref hMk, .ref hT])), (hR, .inl (cI, 8, .inl rt)), (hM, .inl (cJ, 8, .inr (.inl nn))), (hMk, .inl (cI, 8, .inl mk)), (hT, .inl (cI, 8, .inl ty))]) [0, 1, 2, 3, 4] (by decide) rfl
  have hKc := hK.sub (tys' := [(cB, .byte), (cI, .int), (cJ, .long), (cZ, .boolean)]) [0, 1, 2, 3] rfl
  have hFc := va_free (wc := [(h0, .inr (3, [.int (nI s1), .ref hR, .ref hM, .ref hMk, .ref hT])), (hR, .inl (cI, 8, .inl rt)), (hM, .inl (cJ, 8, .inr (.inl nn))), (hMk, .inl (cI, 8, .inl mk)), (hT, .inl (cI, 8, .inl ty))]) hD hS hA [0, 1, 2, 3, 4] rfl
  refine va_calli (va_runV (As := []) (rest := []) ⟨hx, hb, hml, hown, hts⟩ (t_X2_isFull l dC dI s.heap.size cB cI cJ cZ h0 hR hM hMk hT s1 rt nn mk ty (by omega)) (cwV 0 hts (gd_all (in_V kw_1038 kw_936 kw_937 kw_196 kc_X2_isFull)) rfl rfl rfl (by decide +kernel) ⟨Nat.le_of_ble_eq_true rfl, Nat.le_of_ble_eq_true rfl⟩) ⟨fun a U g mk q => by obtain ⟨q0, q1, qP, qK, qD⟩ := q; exact ⟨q0, q1, qP, va_K.moved (u := U) (U := U.calling g mk a) (Vm.Alike.refl U.vm) qK, qD⟩, va_recv hKc hPc (ci := 3) (q0 := 0) rfl rfl, fun U hU hW => ⟨rfl, by rw [hU], by rw [hU]; exact hPc, va_K.moved hW.alike hKc, hDc.weaken (fun _ _ _ _ => trivial)⟩⟩ rfl rfl hl.1 rfl (lv_room (Nat.le_of_ble_eq_true rfl)) dX2_add_1 ⟨Nat.le_of_ble_eq_true rfl, Nat.le_of_ble_eq_true rfl⟩) hS (fun q _ h => hFc q h) hFc (fun r_1 u t_ H1 locs ht hvm hw hB hz1 hk1 hS => ?_)
  obtain ⟨hP1, hK1, hD1⟩ := hB
  rw [ht] at hP1
  have hK1 := va_K.moved hvm.symm hK1
  obtain ⟨hP, hD⟩ := va_join (wr := []) (w1 := [(h0, .inr (3, [.int (nI s1), .ref hR, .ref hM, .ref hMk, .ref hT])), (hR, .inl (cI, 8, .inl rt)), (hM, .inl (cJ, 8, .inr (.inl nn))), (hMk, .inl (cI, 8, .inl mk)), (hT, .inl (cI, 8, .inl ty))]) hP hD [0, 1, 2, 3, 4] [] rfl rfl (by decide) (by decide) hk1 hFc hP1 hD1
  have hK := (hK.sub (tys' := []) [] rfl).app hK1
  generalize H1 = H at hP hS ⊢
  have hP : va_P (dC, dI) vwCl [(h0, .inr (3, [.int (nI s1), .ref hR, .ref hM, .ref hMk, .ref hT])), (hR, .inl (cI, 8, .inl rt)), (hM, .inl (cJ, 8, .inr (.inl nn))), (hMk, .inl (cI, 8, .inl mk)), (hT, .inl (cI, 8, .inl ty))] H := hP
  have hD : va_D A [(h0, .inr (3, [.int (nI s1), .ref hR, .ref hM, .ref hMk, .ref hT])), (hR, .inl (cI, 8, .inl rt)), (hM, .inl (cJ, 8, .inr (.inl nn))), (hMk, .inl (cI, 8, .inl mk)), (hT, .inl (cI, 8, .inl ty))] := hD
  have hK : va_K (dC, dI) vwCl [(cB, .byte), (cI, .int), (cJ, .long), (cZ, .boolean)] s := hK
  have er_1 : r_1 = 0 := hw.trans (if_pos hs)
  rw [er_1]
  refine lv_if_eq (tgt := 8) hx hb dX2_add_4 (by decide) (fun c_2 => ?_) (fun c_2 => ?_)
  · skip
    refine lv_aload_n hx hb dX2_add_8 rfl (lv_at hl 0 rfl) ?_
    refine va_get (D := (dC, dI)) (ci := 3) (v := .ref hR) (C := RX2) (T := TX2) (N := 5) hx hb hts (fun w h => List.mem_cons_of_mem _ (uG_X2 w h)) hown hK hP 0 rfl rfl 1 (by decide) (hts _ (List.mem_cons_of_mem _ kw_633)) (fun _ h9 => h9) rfl dX2_add_9 ?_
    refine lv_aload_n hx hb dX2_add_12 rfl (lv_at hl 0 rfl) ?_
    refine va_get (D := (dC, dI)) (ci := 3) (v := .int (nI s1)) (C := RX2) (T := TX2) (N := 5) hx hb hts (fun w h => List.mem_cons_of_mem _ (uG_X2 w h)) hown hK hP 0 rfl rfl 0 (by decide) (hts _ (List.mem_cons_of_mem _ kw_628)) (fun _ h9 => h9) rfl dX2_add_13 ?_
    refine lv_iload_n hx hb dX2_add_16 rfl (lv_at hl 1 rfl) ?_
    refine va_iast hx hb hK hP hD hS 1 1 rfl rfl (i := (nI s1)) (x := x1) (vp_in_nI (n := s1) (N := 8) (by omega) (by omega)) dX2_add_17 (fun H locs hP hD hS => ?_)
    rw [show (nI s1).toNatClampNeg = s1 from nI_clamp (n := s1) (by omega)] at hP hD
    have hP : va_P (dC, dI) vwCl [(h0, .inr (3, [.int (nI s1), .ref hR, .ref hM, .ref hMk, .ref hT])), (hR, .inl (cI, 8, .inl (upd rt s1 x1))), (hM, .inl (cJ, 8, .inr (.inl nn))), (hMk, .inl (cI, 8, .inl mk)), (hT, .inl (cI, 8, .inl ty))] H := hP
    have hD : va_D A [(h0, .inr (3, [.int (nI s1), .ref hR, .ref hM, .ref hMk, .ref hT])), (hR, .inl (cI, 8, .inl (upd rt s1 x1))), (hM, .inl (cJ, 8, .inr (.inl nn))), (hMk, .inl (cI, 8, .inl mk)), (hT, .inl (cI, 8, .inl ty))] := hD
    refine lv_aload_n hx hb dX2_add_18 rfl (lv_at hl 0 rfl) ?_
    refine va_get (D := (dC, dI)) (ci := 3) (v := .ref hM) (C := RX2) (T := TX2) (N := 5) hx hb hts (fun w h => List.mem_cons_of_mem _ (uG_X2 w h)) hown hK hP 0 rfl rfl 2 (by decide) (hts _ (List.mem_cons_of_mem _ kw_636)) (fun _ h9 => h9) rfl dX2_add_19 ?_
    refine lv_aload_n hx hb dX2_add_22 rfl (lv_at hl 0 rfl) ?_
    refine va_get (D := (dC, dI)) (ci := 3) (v := .int (nI s1)) (C := RX2) (T := TX2) (N := 5) hx hb hts (fun w h => List.mem_cons_of_mem _ (uG_X2 w h)) hown hK hP 0 rfl rfl 0 (by decide) (hts _ (List.mem_cons_of_mem _ kw_628)) (fun _ h9 => h9) rfl dX2_add_23 ?_
    refine lv_lload_n hx hb dX2_add_26 rfl (lv_at hl 2 rfl) ?_
    refine va_last hx hb hK hP hD hS 2 2 rfl rfl (i := (nI s1)) (x := x2) (vp_in_nI (n := s1) (N := 8) (by omega) (by omega)) dX2_add_27 (fun H locs hP hD hS => ?_)
    rw [show (nI s1).toNatClampNeg = s1 from nI_clamp (n := s1) (by omega)] at hP hD
    have hP : va_P (dC, dI) vwCl [(h0, .inr (3, [.int (nI s1), .ref hR, .ref hM, .ref hMk, .ref hT])), (hR, .inl (cI, 8, .inl (upd rt s1 x1))), (hM, .inl (cJ, 8, .inr (.inl (vp_updL nn s1 x2)))), (hMk, .inl (cI, 8, .inl mk)), (hT, .inl (cI, 8, .inl ty))] H := hP
    have hD : va_D A [(h0, .inr (3, [.int (nI s1), .ref hR, .ref hM, .ref hMk, .ref hT])), (hR, .inl (cI, 8, .inl (upd rt s1 x1))), (hM, .inl (cJ, 8, .inr (.inl (vp_updL nn s1 x2)))), (hMk, .inl (cI, 8, .inl mk)), (hT, .inl (cI, 8, .inl ty))] := hD
    refine lv_aload_n hx hb dX2_add_28 rfl (lv_at hl 0 rfl) ?_
    refine va_get (D := (dC, dI)) (ci := 3) (v := .ref hMk) (C := RX2) (T := TX2) (N := 5) hx hb hts (fun w h => List.mem_cons_of_mem _ (uG_X2 w h)) hown hK hP 0 rfl rfl 3 (by decide) (hts _ (List.mem_cons_of_mem _ kw_638)) (fun _ h9 => h9) rfl dX2_add_29 ?_
    refine lv_aload_n hx hb dX2_add_32 rfl (lv_at hl 0 rfl) ?_
    refine va_get (D := (dC, dI)) (ci := 3) (v := .int (nI s1)) (C := RX2) (T := TX2) (N := 5) hx hb hts (fun w h => List.mem_cons_of_mem _ (uG_X2 w h)) hown hK hP 0 rfl rfl 0 (by decide) (hts _ (List.mem_cons_of_mem _ kw_628)) (fun _ h9 => h9) rfl dX2_add_33 ?_
    refine lv_iload hx hb dX2_add_36 (lv_at hl 3 rfl) ?_
    refine va_iast hx hb hK hP hD hS 3 1 rfl rfl (i := (nI s1)) (x := x3) (vp_in_nI (n := s1) (N := 8) (by omega) (by omega)) dX2_add_38 (fun H locs hP hD hS => ?_)
    rw [show (nI s1).toNatClampNeg = s1 from nI_clamp (n := s1) (by omega)] at hP hD
    have hP : va_P (dC, dI) vwCl [(h0, .inr (3, [.int (nI s1), .ref hR, .ref hM, .ref hMk, .ref hT])), (hR, .inl (cI, 8, .inl (upd rt s1 x1))), (hM, .inl (cJ, 8, .inr (.inl (vp_updL nn s1 x2)))), (hMk, .inl (cI, 8, .inl (upd mk s1 x3))), (hT, .inl (cI, 8, .inl ty))] H := hP
    have hD : va_D A [(h0, .inr (3, [.int (nI s1), .ref hR, .ref hM, .ref hMk, .ref hT])), (hR, .inl (cI, 8, .inl (upd rt s1 x1))), (hM, .inl (cJ, 8, .inr (.inl (vp_updL nn s1 x2)))), (hMk, .inl (cI, 8, .inl (upd mk s1 x3))), (hT, .inl (cI, 8, .inl ty))] := hD
    refine lv_aload_n hx hb dX2_add_39 rfl (lv_at hl 0 rfl) ?_
    refine va_get (D := (dC, dI)) (ci := 3) (v := .ref hT) (C := RX2) (T := TX2) (N := 5) hx hb hts (fun w h => List.mem_cons_of_mem _ (uG_X2 w h)) hown hK hP 0 rfl rfl 4 (by decide) (hts _ (List.mem_cons_of_mem _ kw_640)) (fun _ h9 => h9) rfl dX2_add_40 ?_
    refine lv_aload_n hx hb dX2_add_43 rfl (lv_at hl 0 rfl) ?_
    refine va_get (D := (dC, dI)) (ci := 3) (v := .int (nI s1)) (C := RX2) (T := TX2) (N := 5) hx hb hts (fun w h => List.mem_cons_of_mem _ (uG_X2 w h)) hown hK hP 0 rfl rfl 0 (by decide) (hts _ (List.mem_cons_of_mem _ kw_628)) (fun _ h9 => h9) rfl dX2_add_44 ?_
    refine lv_iload hx hb dX2_add_47 (lv_at hl 4 rfl) ?_
    refine va_iast hx hb hK hP hD hS 4 1 rfl rfl (i := (nI s1)) (x := x4) (vp_in_nI (n := s1) (N := 8) (by omega) (by omega)) dX2_add_49 (fun H locs hP hD hS => ?_)
    rw [show (nI s1).toNatClampNeg = s1 from nI_clamp (n := s1) (by omega)] at hP hD
    have hP : va_P (dC, dI) vwCl [(h0, .inr (3, [.int (nI s1), .ref hR, .ref hM, .ref hMk, .ref hT])), (hR, .inl (cI, 8, .inl (upd rt s1 x1))), (hM, .inl (cJ, 8, .inr (.inl (vp_updL nn s1 x2)))), (hMk, .inl (cI, 8, .inl (upd mk s1 x3))), (hT, .inl (cI, 8, .inl (upd ty s1 x4)))] H := hP
    have hD : va_D A [(h0, .inr (3, [.int (nI s1), .ref hR, .ref hM, .ref hMk, .ref hT])), (hR, .inl (cI, 8, .inl (upd rt s1 x1))), (hM, .inl (cJ, 8, .inr (.inl (vp_updL nn s1 x2)))), (hMk, .inl (cI, 8, .inl (upd mk s1 x3))), (hT, .inl (cI, 8, .inl (upd ty s1 x4)))] := hD
    refine lv_aload_n hx hb dX2_add_50 rfl (lv_at hl 0 rfl) ?_
    refine lv_dup hx hb dX2_add_51 rfl ?_
    refine va_get (D := (dC, dI)) (ci := 3) (v := .int (nI s1)) (C := RX2) (T := TX2) (N := 5) hx hb hts (fun w h => List.mem_cons_of_mem _ (uG_X2 w h)) hown hK hP 0 rfl rfl 0 (by decide) (hts _ (List.mem_cons_of_mem _ kw_628)) (fun _ h9 => h9) rfl dX2_add_52 ?_
    refine lv_iconst (v := 1) hx hb dX2_add_55 (by decide) ?_
    refine lv_iadd hx hb dX2_add_56 ?_
    refine lv_topi (fun x_3 ex_3 => ?_)
    have ex_3 : x_3 = nI (s1 + 1) := ex_3.trans (nI_add s1 1)
    subst ex_3
    refine va_put (D := (dC, dI)) (ci := 3) (v := .int (nI (s1 + 1))) (ty := .int) (C := RX2) (T := TX2) (N := 5) hx hb hts (fun w h => List.mem_cons_of_mem _ (uG_X2 w h)) tyX2 tyX2_ok nmX2 hown hK hP hD hS 0 rfl rfl 0 (by decide) (hts _ (List.mem_cons_of_mem _ kw_628)) (fun _ h9 => h9) rfl (by decide +kernel) rfl rfl (Nat.le_of_ble_eq_true rfl) dX2_add_57 (fun H locs hP hD hS => ?_)
    have hP : va_P (dC, dI) vwCl [(h0, .inr (3, [.int (nI (s1 + 1)), .ref hR, .ref hM, .ref hMk, .ref hT])), (hR, .inl (cI, 8, .inl (upd rt s1 x1))), (hM, .inl (cJ, 8, .inr (.inl (vp_updL nn s1 x2)))), (hMk, .inl (cI, 8, .inl (upd mk s1 x3))), (hT, .inl (cI, 8, .inl (upd ty s1 x4)))] H := hP
    have hD : va_D A [(h0, .inr (3, [.int (nI (s1 + 1)), .ref hR, .ref hM, .ref hMk, .ref hT])), (hR, .inl (cI, 8, .inl (upd rt s1 x1))), (hM, .inl (cJ, 8, .inr (.inl (vp_updL nn s1 x2)))), (hMk, .inl (cI, 8, .inl (upd mk s1 x3))), (hT, .inl (cI, 8, .inl (upd ty s1 x4)))] := hD
    have hP9 := hP.sub (ws' := [(h0, .inr (3, [.int (nI (s1 + 1)), .ref hR, .ref hM, .ref hMk, .ref hT])), (hR, .inl (cI, 8, .inl (upd rt s1 x1))), (hM, .inl (cJ, 8, .inr (.inl (vp_updL nn s1 x2)))), (hMk, .inl (cI, 8, .inl (upd mk s1 x3))), (hT, .inl (cI, 8, .inl (upd ty s1 x4)))]) [0, 1, 2, 3, 4] rfl
    have hD9 := hD.sub (ws' := [(h0, .inr (3, [.int (nI (s1 + 1)), .ref hR, .ref hM, .ref hMk, .ref hT])), (hR, .inl (cI, 8, .inl (upd rt s1 x1))), (hM, .inl (cJ, 8, .inr (.inl (vp_updL nn s1 x2)))), (hMk, .inl (cI, 8, .inl (upd mk s1 x3))), (hT, .inl (cI, 8, .inl (upd ty s1 x4)))]) [0, 1, 2, 3, 4] (by decide) rfl
    have hK9 := hK.sub (tys' := [(cB, .byte), (cI, .int), (cJ, .long), (cZ, .boolean)]) [0, 1, 2, 3] rfl
    exact W.vret hx hb hr (fun t_ ht hW => ⟨⟨(), rfl, trivial, by rw [ht]; exact hP9, va_K.moved hW.alike hK9, hD9⟩, hS.F ht⟩) hS.2.2 dX2_add_60
  · skip
    exact absurd c_2 (by decide)
theorem dX1_has_0 : decode cX1_has 0 = .ok (.iload_n 1, 1) := by decide +kernel
theorem dX1_has_1 : decode cX1_has 1 = .ok (.ifCond .lt 24, 3) := by decide +kernel
theorem dX1_has_25 : decode cX1_has 25 = .ok (.iconst 0, 1) := by decide +kernel
theorem dX1_has_26 : decode cX1_has 26 = .ok (.ireturn, 1) := by decide +kernel
theorem dX11_change_0 : decode cX11_change 0 = .ok (.iload_n 1, 1) := by decide +kernel
theorem dX11_change_1 : decode cX11_change 1 = .ok (.ifCond .lt 20, 3) := by decide +kernel
theorem dX11_change_4 : decode cX11_change 4 = .ok (.iload_n 1, 1) := by decide +kernel
theorem dX11_change_5 : decode cX11_change 5 = .ok (.aload_n 0, 1) := by decide +kernel
theorem dX11_change_6 : decode cX11_change 6 = .ok (.getfield 98, 3) := by decide +kernel
theorem dX11_change_9 : decode cX11_change 9 = .ok (.if_icmp .ge 12, 3) := by decide +kernel
theorem dX11_change_21 : decode cX11_change 21 = .ok (.iconst 0, 1) := by decide +kernel
theorem dX11_change_22 : decode cX11_change 22 = .ok (.ireturn, 1) := by decide +kernel
abbrev cs_t_X11_change_o (cB cI cJ cZ : ClassId) (h0 hQ N t1 : Nat) (by1 : Nat → Int32) (v0 v2 v3 v5 v6 v7 v8 v9 v10 v12 v15 : Value) (ts lf ar : Int32) (x : Int32) : va_W := [(h0, .inr (12, [v0, .int ts, v2, v3, .int lf, v5, v6, v7, v8, v9, v10, .int ar, v12, .ref hQ, .int (nI t1), v15])), (hQ, .inl (cI, N, .inl by1))]
abbrev pc_t_X11_change_o (dC : Nat → ClassId) (dI : Nat → Nat → Nat) (sz : Nat) (cB cI cJ cZ : ClassId) (h0 hQ N t1 : Nat) (by1 : Nat → Int32) (v0 v2 v3 v5 v6 v7 v8 v9 v10 v12 v15 : Value) (ts lf ar : Int32) (x : Int32) : Array Value → State → Prop := va_Pc [.ref h0, .int x] (fun U => U.heap.size = sz ∧ va_P (dC, dI) vwCl [(h0, .inr (12, [v0, .int ts, v2, v3, .int lf, v5, v6, v7, v8, v9, v10, .int ar, v12, .ref hQ, .int (nI t1), v15])), (hQ, .inl (cI, N, .inl by1))] U.heap ∧ va_K (dC, dI) vwCl [(cB, .byte), (cI, .int), (cJ, .long), (cZ, .boolean)] U ∧ va_D (fun _ => True) [(h0, .inr (12, [v0, .int ts, v2, v3, .int lf, v5, v6, v7, v8, v9, v10, .int ar, v12, .ref hQ, .int (nI t1), v15])), (hQ, .inl (cI, N, .inl by1))])
abbrev qc_t_X11_change_o (dC : Nat → ClassId) (dI : Nat → Nat → Nat) (cB cI cJ cZ : ClassId) (h0 hQ N t1 : Nat) (by1 : Nat → Int32) (v0 v2 v3 v5 v6 v7 v8 v9 v10 v12 v15 : Value) (ts lf ar : Int32) (x : Int32) (A : Nat → Prop) : Array Value → State → Outcome → State → Prop := va_Qi (fun (r : Int32) (u : Unit) => match u with | _ => r = 0) (fun (u : Unit) t_ => match u with | _ => va_P (dC, dI) vwCl [(h0, .inr (12, [v0, .int ts, v2, v3, .int lf, v5, v6, v7, v8, v9, v10, .int ar, v12, .ref hQ, .int (nI t1), v15])), (hQ, .inl (cI, N, .inl by1))] t_.heap ∧ va_K (dC, dI) vwCl [(cB, .byte), (cI, .int), (cJ, .long), (cZ, .boolean)] t_ ∧ va_D A [(h0, .inr (12, [v0, .int ts, v2, v3, .int lf, v5, v6, v7, v8, v9, v10, .int ar, v12, .ref hQ, .int (nI t1), v15])), (hQ, .inl (cI, N, .inl by1))]) A
set_option maxHeartbeats 4000000 in
set_option maxRecDepth 100000 in
theorem t_X11_change_o (l : Launch) (dC : Nat → ClassId) (dI : Nat → Nat → Nat) (sz : Nat) (cB cI cJ cZ : ClassId) (h0 hQ N t1 : Nat) (by1 : Nat → Int32) (v0 v2 v3 v5 v6 v7 v8 v9 v10 v12 v15 : Value) (ts lf ar : Int32) (x : Int32) (hN : N < 100000) (ht1 : t1 ≤ N) (ho : x < 0 ∨ nI t1 ≤ x) : Met l yX11_change (wsOf yX11_change cX11_change 2 (some .int)) ({ frames := 0, cells := 0, slots := 0, locals := 0 }) (pc_t_X11_change_o dC dI sz cB cI cJ cZ h0 hQ N t1 by1 v0 v2 v3 v5 v6 v7 v8 v9 v10 v12 v15 ts lf ar x) (qc_t_X11_change_o dC dI cB cI cJ cZ h0 hQ N t1 by1 v0 v2 v3 v5 v6 v7 v8 v9 v10 v12 v15 ts lf ar x (va_A (cs_t_X11_change_o cB cI cJ cZ h0 hQ N t1 by1 v0 v2 v3 v5 v6 v7 v8 v9 v10 v12 v15 ts lf ar x) sz)) 0 0 (va_A (cs_t_X11_change_o cB cI cJ cZ h0 hQ N t1 by1 v0 v2 v3 v5 v6 v7 v8 v9 v10 v12 v15 ts lf ar x) sz) := by
  refine Met.ofW (cc := cX11_change) (maxL := 2) (ret := (some .int)) (by decide) rfl ?_
  intro p e s m args below meth c s₁ B hml hv
  obtain ⟨rfl, hsz, hP, hK, hD0⟩ := hv
  have hx := B.exec
  have hb := B.bytes
  have hr := B.returns
  have hts := atoms_spec (ws := (wsOf yX11_change cX11_change 2 (some .int))) B.pre
  have hown : s.vm.findClass RX11 = some m.cls := findClass_of_methodNamed B.named
  have hlocks := B.notSynchronized
  subst hsz
  have hD := hD0.self (sz := s.heap.size)
  generalize hAe : va_A (cs_t_X11_change_o cB cI cJ cZ h0 hQ N t1 by1 v0 v2 v3 v5 v6 v7 v8 v9 v10 v12 v15 ts lf ar x) s.heap.size = A at hD ⊢
  have hA : ∀ q : Nat, s.heap.size ≤ q → A q := fun q h => by rw [← hAe]; exact Or.inr h
  have hS : va_S A s.heap s.heap [] := va_S.rf
  have hP : va_P (dC, dI) vwCl [(h0, .inr (12, [v0, .int ts, v2, v3, .int lf, v5, v6, v7, v8, v9, v10, .int ar, v12, .ref hQ, .int (nI t1), v15])), (hQ, .inl (cI, N, .inl by1))] s.heap := hP
  have hl := lv_entry ([.ref h0, .int x]) (n := 2) (Nat.le_of_ble_eq_true rfl)
  rw [lg_entry_eq]
  generalize (lg_sl ([.ref h0, .int x]) ++ List.replicate (2 - (lg_sl ([.ref h0, .int x])).length) Slot.unset).toArray = ls at hl ⊢
  have hl : lv_has ls 2 [(0, .ref h0), (1, .int x)] := hl
  refine lv_iload_n hx hb dX11_change_0 rfl (lv_at hl 1 rfl) ?_
  refine lv_if_lt (tgt := 21) hx hb dX11_change_1 (by decide) (fun c_1 => ?_) (fun c_1 => ?_)
  · skip
    refine lv_iconst (v := 0) hx hb dX11_change_21 (by decide) ?_
    have hP9 := hP.sub (ws' := [(h0, .inr (12, [v0, .int ts, v2, v3, .int lf, v5, v6, v7, v8, v9, v10, .int ar, v12, .ref hQ, .int (nI t1), v15])), (hQ, .inl (cI, N, .inl by1))]) [0, 1] rfl
    have hD9 := hD.sub (ws' := [(h0, .inr (12, [v0, .int ts, v2, v3, .int lf, v5, v6, v7, v8, v9, v10, .int ar, v12, .ref hQ, .int (nI t1), v15])), (hQ, .inl (cI, N, .inl by1))]) [0, 1] (by decide) rfl
    have hK9 := hK.sub (tys' := [(cB, .byte), (cI, .int), (cJ, .long), (cZ, .boolean)]) [0, 1, 2, 3] rfl
    exact W.iret (v := 0) hx hb hr (fun t_ ht hW => ⟨⟨0, (), rfl, rfl, by rw [ht]; exact hP9, va_K.moved hW.alike hK9, hD9⟩, hS.F ht⟩) hS.2.2 dX11_change_22
  · skip
    refine lv_iload_n hx hb dX11_change_4 rfl (lv_at hl 1 rfl) ?_
    refine lv_aload_n hx hb dX11_change_5 rfl (lv_at hl 0 rfl) ?_
    refine va_get (D := (dC, dI)) (ci := 12) (v := .int (nI t1)) (C := RX11) (T := TX11) (N := 16) hx hb hts (fun w h => List.mem_cons_of_mem _ (uG_X11 w h)) hown hK hP 0 rfl rfl 14 (by decide) (hts _ (List.mem_cons_of_mem _ kw_442)) (fun _ h9 => h9) rfl dX11_change_6 ?_
    refine lv_icmp_ge (tgt := 21) hx hb dX11_change_9 (by decide) (fun c_2 => ?_) (fun c_2 => ?_)
    · skip
      refine lv_iconst (v := 0) hx hb dX11_change_21 (by decide) ?_
      have hP9 := hP.sub (ws' := [(h0, .inr (12, [v0, .int ts, v2, v3, .int lf, v5, v6, v7, v8, v9, v10, .int ar, v12, .ref hQ, .int (nI t1), v15])), (hQ, .inl (cI, N, .inl by1))]) [0, 1] rfl
      have hD9 := hD.sub (ws' := [(h0, .inr (12, [v0, .int ts, v2, v3, .int lf, v5, v6, v7, v8, v9, v10, .int ar, v12, .ref hQ, .int (nI t1), v15])), (hQ, .inl (cI, N, .inl by1))]) [0, 1] (by decide) rfl
      have hK9 := hK.sub (tys' := [(cB, .byte), (cI, .int), (cJ, .long), (cZ, .boolean)]) [0, 1, 2, 3] rfl
      exact W.iret (v := 0) hx hb hr (fun t_ ht hW => ⟨⟨0, (), rfl, rfl, by rw [ht]; exact hP9, va_K.moved hW.alike hK9, hD9⟩, hS.F ht⟩) hS.2.2 dX11_change_22
    · skip
      exact absurd ho (not_or.mpr ⟨c_1, c_2⟩)
theorem dX12_change_0 : decode cX12_change 0 = .ok (.iload_n 1, 1) := by decide +kernel
theorem dX12_change_1 : decode cX12_change 1 = .ok (.ifCond .lt 20, 3) := by decide +kernel
theorem dX12_change_4 : decode cX12_change 4 = .ok (.iload_n 1, 1) := by decide +kernel
theorem dX12_change_5 : decode cX12_change 5 = .ok (.aload_n 0, 1) := by decide +kernel
theorem dX12_change_6 : decode cX12_change 6 = .ok (.getfield 271, 3) := by decide +kernel
theorem dX12_change_9 : decode cX12_change 9 = .ok (.if_icmp .ge 12, 3) := by decide +kernel
theorem dX12_change_21 : decode cX12_change 21 = .ok (.iconst 0, 1) := by decide +kernel
theorem dX12_change_22 : decode cX12_change 22 = .ok (.ireturn, 1) := by decide +kernel
abbrev cs_t_X12_change_o (cB cI cJ cZ : ClassId) (h0 t1 : Nat) (a : Nat → Nat) (by1 f : Nat → Int32) (w : Int64) (x : Int32) : va_W := [(h0, .inr (13, moF a (upd f 110 (nI t1)) w)), (a 111, .inl (cI, 1300, .inl by1))]
abbrev pc_t_X12_change_o (dC : Nat → ClassId) (dI : Nat → Nat → Nat) (sz : Nat) (cB cI cJ cZ : ClassId) (h0 t1 : Nat) (a : Nat → Nat) (by1 f : Nat → Int32) (w : Int64) (x : Int32) : Array Value → State → Prop := va_Pc [.ref h0, .int x] (fun U => U.heap.size = sz ∧ va_P (dC, dI) vwCl [(h0, .inr (13, moF a (upd f 110 (nI t1)) w)), (a 111, .inl (cI, 1300, .inl by1))] U.heap ∧ va_K (dC, dI) vwCl [(cB, .byte), (cI, .int), (cJ, .long), (cZ, .boolean)] U ∧ va_D (fun _ => True) [(h0, .inr (13, moF a (upd f 110 (nI t1)) w)), (a 111, .inl (cI, 1300, .inl by1))])
abbrev qc_t_X12_change_o (dC : Nat → ClassId) (dI : Nat → Nat → Nat) (cB cI cJ cZ : ClassId) (h0 t1 : Nat) (a : Nat → Nat) (by1 f : Nat → Int32) (w : Int64) (x : Int32) (A : Nat → Prop) : Array Value → State → Outcome → State → Prop := va_Qi (fun (r : Int32) (u : Unit) => match u with | _ => r = 0) (fun (u : Unit) t_ => match u with | _ => va_P (dC, dI) vwCl [(h0, .inr (13, moF a (upd f 110 (nI t1)) w)), (a 111, .inl (cI, 1300, .inl by1))] t_.heap ∧ va_K (dC, dI) vwCl [(cB, .byte), (cI, .int), (cJ, .long), (cZ, .boolean)] t_ ∧ va_D A [(h0, .inr (13, moF a (upd f 110 (nI t1)) w)), (a 111, .inl (cI, 1300, .inl by1))]) A
set_option maxHeartbeats 4000000 in
set_option maxRecDepth 100000 in
theorem t_X12_change_o (l : Launch) (dC : Nat → ClassId) (dI : Nat → Nat → Nat) (sz : Nat) (cB cI cJ cZ : ClassId) (h0 t1 : Nat) (a : Nat → Nat) (by1 f : Nat → Int32) (w : Int64) (x : Int32) (ht1 : t1 ≤ 1300) (ho : x < 0 ∨ nI t1 ≤ x) : Met l yX12_change (wsOf yX12_change cX12_change 2 (some .int)) ({ frames := 0, cells := 0, slots := 0, locals := 0 }) (pc_t_X12_change_o dC dI sz cB cI cJ cZ h0 t1 a by1 f w x) (qc_t_X12_change_o dC dI cB cI cJ cZ h0 t1 a by1 f w x (va_A (cs_t_X12_change_o cB cI cJ cZ h0 t1 a by1 f w x) sz)) 0 0 (va_A (cs_t_X12_change_o cB cI cJ cZ h0 t1 a by1 f w x) sz) := by
  refine Met.ofW (cc := cX12_change) (maxL := 2) (ret := (some .int)) (by decide) rfl ?_
  intro p e s m args below meth c s₁ B hml hv
  obtain ⟨rfl, hsz, hP, hK, hD0⟩ := hv
  have hx := B.exec
  have hb := B.bytes
  have hr := B.returns
  have hts := atoms_spec (ws := (wsOf yX12_change cX12_change 2 (some .int))) B.pre
  have hown : s.vm.findClass RX12 = some m.cls := findClass_of_methodNamed B.named
  have hlocks := B.notSynchronized
  subst hsz
  have hD := hD0.self (sz := s.heap.size)
  generalize hAe : va_A (cs_t_X12_change_o cB cI cJ cZ h0 t1 a by1 f w x) s.heap.size = A at hD ⊢
  have hA : ∀ q : Nat, s.heap.size ≤ q → A q := fun q h => by rw [← hAe]; exact Or.inr h
  have hS : va_S A s.heap s.heap [] := va_S.rf
  have hP : va_P (dC, dI) vwCl [(h0, .inr (13, moF a (upd f 110 (nI t1)) w)), (a 111, .inl (cI, 1300, .inl by1))] s.heap := hP
  have hl := lv_entry ([.ref h0, .int x]) (n := 2) (Nat.le_of_ble_eq_true rfl)
  rw [lg_entry_eq]
  generalize (lg_sl ([.ref h0, .int x]) ++ List.replicate (2 - (lg_sl ([.ref h0, .int x])).length) Slot.unset).toArray = ls at hl ⊢
  have hl : lv_has ls 2 [(0, .ref h0), (1, .int x)] := hl
  refine lv_iload_n hx hb dX12_change_0 rfl (lv_at hl 1 rfl) ?_
  refine lv_if_lt (tgt := 21) hx hb dX12_change_1 (by decide) (fun c_1 => ?_) (fun c_1 => ?_)
  · skip
    refine lv_iconst (v := 0) hx hb dX12_change_21 (by decide) ?_
    have hP9 := hP.sub (ws' := [(h0, .inr (13, moF a (upd f 110 (nI t1)) w)), (a 111, .inl (cI, 1300, .inl by1))]) [0, 1] rfl
    have hD9 := hD.sub (ws' := [(h0, .inr (13, moF a (upd f 110 (nI t1)) w)), (a 111, .inl (cI, 1300, .inl by1))]) [0, 1] (by decide) rfl
    have hK9 := hK.sub (tys' := [(cB, .byte), (cI, .int), (cJ, .long), (cZ, .boolean)]) [0, 1, 2, 3] rfl
    exact W.iret (v := 0) hx hb hr (fun t_ ht hW => ⟨⟨0, (), rfl, rfl, by rw [ht]; exact hP9, va_K.moved hW.alike hK9, hD9⟩, hS.F ht⟩) hS.2.2 dX12_change_22
  · skip
    refine lv_iload_n hx hb dX12_change_4 rfl (lv_at hl 1 rfl) ?_
    refine lv_aload_n hx hb dX12_change_5 rfl (lv_at hl 0 rfl) ?_
    refine va_get (D := (dC, dI)) (ci := 13) (v := .int (nI t1)) (C := RX12) (T := TX12) (N := 115) hx hb hts (fun w h => List.mem_cons_of_mem _ (uG_X12 w h)) hown hK hP 0 rfl rfl 110 (by decide) (hts _ (List.mem_cons_of_mem _ kw_1801)) (fun _ h9 => h9) rfl dX12_change_6 ?_
    refine lv_icmp_ge (tgt := 21) hx hb dX12_change_9 (by decide) (fun c_2 => ?_) (fun c_2 => ?_)
    · skip
      refine lv_iconst (v := 0) hx hb dX12_change_21 (by decide) ?_
      have hP9 := hP.sub (ws' := [(h0, .inr (13, moF a (upd f 110 (nI t1)) w)), (a 111, .inl (cI, 1300, .inl by1))]) [0, 1] rfl
      have hD9 := hD.sub (ws' := [(h0, .inr (13, moF a (upd f 110 (nI t1)) w)), (a 111, .inl (cI, 1300, .inl by1))]) [0, 1] (by decide) rfl
      have hK9 := hK.sub (tys' := [(cB, .byte), (cI, .int), (cJ, .long), (cZ, .boolean)]) [0, 1, 2, 3] rfl
      exact W.iret (v := 0) hx hb hr (fun t_ ht hW => ⟨⟨0, (), rfl, rfl, by rw [ht]; exact hP9, va_K.moved hW.alike hK9, hD9⟩, hS.F ht⟩) hS.2.2 dX12_change_22
    · skip
      exact absurd ho (not_or.mpr ⟨c_1, c_2⟩)

