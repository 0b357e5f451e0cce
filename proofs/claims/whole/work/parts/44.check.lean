
theorem dX0_init_0 : decode cX0_init 0 = .ok (.aload_n 0, 1) := by decide +kernel
theorem dX0_init_1 : decode cX0_init 1 = .ok (.invokespecial 3, 3) := by decide +kernel
theorem dX0_init_4 : decode cX0_init 4 = .ok (.aload_n 0, 1) := by decide +kernel
theorem dX0_init_5 : decode cX0_init 5 = .ok (.aload_n 1, 1) := by decide +kernel
theorem dX0_init_6 : decode cX0_init 6 = .ok (.putfield 9, 3) := by decide +kernel
theorem dX0_init_9 : decode cX0_init 9 = .ok (.aload_n 0, 1) := by decide +kernel
theorem dX0_init_10 : decode cX0_init 10 = .ok (.aload_n 2, 1) := by decide +kernel
theorem dX0_init_11 : decode cX0_init 11 = .ok (.putfield 15, 3) := by decide +kernel
theorem dX0_init_14 : decode cX0_init 14 = .ok (.aload_n 0, 1) := by decide +kernel
theorem dX0_init_15 : decode cX0_init 15 = .ok (.aload_n 1, 1) := by decide +kernel
theorem dX0_init_16 : decode cX0_init 16 = .ok (.getfield 19, 3) := by decide +kernel
theorem dX0_init_19 : decode cX0_init 19 = .ok (.putfield 25, 3) := by decide +kernel
theorem dX0_init_22 : decode cX0_init 22 = .ok (.return_, 1) := by decide +kernel
abbrev cs_t_X0_init (cB cI cJ cZ : ClassId) (h0 hX hCo : Nat) (e0 e1 e4 e5 e8 e9 e11 : Int32) (g3 g6 g7 g10 : Value) (s2 : Nat) : va_W := [(h0, .inr (1, [.null, .null, .null, .null, .int 0, .null])), (hX, .inr (10, [.int e0, .int e1, .ref hCo, g3, .int e4, .int e5, g6, g7, .int e8, .int e9, g10, .int e11]))]
abbrev pc_t_X0_init (dC : Nat → ClassId) (dI : Nat → Nat → Nat) (sz : Nat) (cB cI cJ cZ : ClassId) (h0 hX hCo : Nat) (e0 e1 e4 e5 e8 e9 e11 : Int32) (g3 g6 g7 g10 : Value) (s2 : Nat) : Array Value → State → Prop := va_Pc [.ref h0, .ref hX, .ref s2] (fun U => U.heap.size = sz ∧ va_P (dC, dI) vwCl [(h0, .inr (1, [.null, .null, .null, .null, .int 0, .null])), (hX, .inr (10, [.int e0, .int e1, .ref hCo, g3, .int e4, .int e5, g6, g7, .int e8, .int e9, g10, .int e11]))] U.heap ∧ va_K (dC, dI) vwCl [(cB, .byte), (cI, .int), (cJ, .long), (cZ, .boolean)] U ∧ va_D (fun _ => True) [(h0, .inr (1, [.null, .null, .null, .null, .int 0, .null])), (hX, .inr (10, [.int e0, .int e1, .ref hCo, g3, .int e4, .int e5, g6, g7, .int e8, .int e9, g10, .int e11]))])
abbrev qc_t_X0_init (dC : Nat → ClassId) (dI : Nat → Nat → Nat) (cB cI cJ cZ : ClassId) (h0 hX hCo : Nat) (e0 e1 e4 e5 e8 e9 e11 : Int32) (g3 g6 g7 g10 : Value) (s2 : Nat) (A : Nat → Prop) : Array Value → State → Outcome → State → Prop := va_Qv (fun (u : Unit) => match u with | _ => True) (fun (u : Unit) t_ => match u with | _ => va_P (dC, dI) vwCl [(h0, .inr (1, [.ref hX, .ref s2, .ref hCo, .null, .int 0, .null])), (hX, .inr (10, [.int e0, .int e1, .ref hCo, g3, .int e4, .int e5, g6, g7, .int e8, .int e9, g10, .int e11]))] t_.heap ∧ va_K (dC, dI) vwCl [(cB, .byte), (cI, .int), (cJ, .long), (cZ, .boolean)] t_ ∧ va_D A [(h0, .inr (1, [.ref hX, .ref s2, .ref hCo, .null, .int 0, .null])), (hX, .inr (10, [.int e0, .int e1, .ref hCo, g3, .int e4, .int e5, g6, g7, .int e8, .int e9, g10, .int e11]))]) A
set_option maxHeartbeats 4000000 in
set_option maxRecDepth 100000 in
theorem t_X0_init (l : Launch) (dC : Nat → ClassId) (dI : Nat → Nat → Nat) (sz : Nat) (cB cI cJ cZ : ClassId) (h0 hX hCo : Nat) (e0 e1 e4 e5 e8 e9 e11 : Int32) (g3 g6 g7 g10 : Value) (s2 : Nat)  : Met l yX0_init (wsOf yX0_init cX0_init 3 none) ({ frames := 1, cells := 0, slots := 0, locals := 60 }) (pc_t_X0_init dC dI sz cB cI cJ cZ h0 hX hCo e0 e1 e4 e5 e8 e9 e11 g3 g6 g7 g10 s2) (qc_t_X0_init dC dI cB cI cJ cZ h0 hX hCo e0 e1 e4 e5 e8 e9 e11 g3 g6 g7 g10 s2 (va_A (cs_t_X0_init cB cI cJ cZ h0 hX hCo e0 e1 e4 e5 e8 e9 e11 g3 g6 g7 g10 s2) sz)) 0 0 (va_A (cs_t_X0_init cB cI cJ cZ h0 hX hCo e0 e1 e4 e5 e8 e9 e11 g3 g6 g7 g10 s2) sz) := by
  refine Met.ofW (cc := cX0_init) (maxL := 3) (ret := none) (by decide) rfl ?_
  intro p e s m args below meth c s₁ B hml hv
  obtain ⟨rfl, hsz, hP, hK, hD0⟩ := hv
  have hx := B.exec
  have hb := B.bytes
  have hr := B.returns
  have hts := atoms_spec (ws := (wsOf yX0_init cX0_init 3 none)) B.pre
  have hown : s.vm.findClass RX0 = some m.cls := findClass_of_methodNamed B.named
  have hlocks := B.notSynchronized
  have hin : meth.name = "<init>" := (name_of_methodNamed B.named B.method).1
  subst hsz
  have hD := hD0.self (sz := s.heap.size)
  generalize hAe : va_A (cs_t_X0_init cB cI cJ cZ h0 hX hCo e0 e1 e4 e5 e8 e9 e11 g3 g6 g7 g10 s2) s.heap.size = A at hD ⊢
  have hA : ∀ q : Nat, s.heap.size ≤ q → A q := fun q h => by rw [← hAe]; exact Or.inr h
  have hS : va_S A s.heap s.heap [] := va_S.rf
  have hP : va_P (dC, dI) vwCl [(h0, .inr (1, [.null, .null, .null, .null, .int 0, .null])), (hX, .inr (10, [.int e0, .int e1, .ref hCo, g3, .int e4, .int e5, g6, g7, .int e8, .int e9, g10, .int e11]))] s.heap := hP
  have hl := lv_entry ([.ref h0, .ref hX, .ref s2]) (n := 3) (Nat.le_of_ble_eq_true rfl)
  rw [lg_entry_eq]
  generalize (lg_sl ([.ref h0, .ref hX, .ref s2]) ++ List.replicate (3 - (lg_sl ([.ref h0, .ref hX, .ref s2])).length) Slot.unset).toArray = ls at hl ⊢
  have hl : lv_has ls 3 [(0, .ref h0), (1, .ref hX), (2, .ref s2)] := hl
  refine lv_aload_n hx hb dX0_init_0 rfl (lv_at hl 0 rfl) ?_
  refine W.objInit hx hb hown (hts _ (List.mem_cons_of_mem _ kw_1151)) (hts _ (List.mem_cons_of_mem _ kw_214)) (hts _ (List.mem_cons_of_mem _ kc_objectInit)) rfl (by rw [hml]; exact hl.1) rfl dX0_init_1 (Nat.le_of_ble_eq_true rfl) (Nat.le_of_ble_eq_true rfl) ?_
  refine W.eq (g2 := F0 m 4 ls []) rfl ?_
  refine lv_aload_n hx hb dX0_init_4 rfl (lv_at hl 0 rfl) ?_
  refine lv_aload_n hx hb dX0_init_5 rfl (lv_at hl 1 rfl) ?_
  refine va_putF (D := (dC, dI)) (ci := 1) (v := .ref hX) (ty := .object "StreamQueries$Text") (C := RX0) (T := TX0) (N := 6) hx hb hts (fun w h => List.mem_cons_of_mem _ (uG_X0 w h)) tyX0 tyX0_ok nmX0 hown hK hP hD hS 0 rfl rfl 0 (by decide) (hts _ (List.mem_cons_of_mem _ kw_1152)) (fun _ h9 => h9) rfl hin rfl (by decide +kernel) rfl rfl (Nat.le_of_ble_eq_true rfl) dX0_init_6 (fun H locs hP hD hS => ?_)
  have hP : va_P (dC, dI) vwCl [(h0, .inr (1, [.ref hX, .null, .null, .null, .int 0, .null])), (hX, .inr (10, [.int e0, .int e1, .ref hCo, g3, .int e4, .int e5, g6, g7, .int e8, .int e9, g10, .int e11]))] H := hP
  have hD : va_D A [(h0, .inr (1, [.ref hX, .null, .null, .null, .int 0, .null])), (hX, .inr (10, [.int e0, .int e1, .ref hCo, g3, .int e4, .int e5, g6, g7, .int e8, .int e9, g10, .int e11]))] := hD
  refine lv_aload_n hx hb dX0_init_9 rfl (lv_at hl 0 rfl) ?_
  refine lv_aload_n hx hb dX0_init_10 rfl (lv_at hl 2 rfl) ?_
  refine va_putF (D := (dC, dI)) (ci := 1) (v := .ref s2) (ty := .object "StreamQueries$Streams") (C := RX0) (T := TX0) (N := 6) hx hb hts (fun w h => List.mem_cons_of_mem _ (uG_X0 w h)) tyX0 tyX0_ok nmX0 hown hK hP hD hS 0 rfl rfl 1 (by decide) (hts _ (List.mem_cons_of_mem _ kw_1153)) (fun _ h9 => h9) rfl hin rfl (by decide +kernel) rfl rfl (Nat.le_of_ble_eq_true rfl) dX0_init_11 (fun H locs hP hD hS => ?_)
  have hP : va_P (dC, dI) vwCl [(h0, .inr (1, [.ref hX, .ref s2, .null, .null, .int 0, .null])), (hX, .inr (10, [.int e0, .int e1, .ref hCo, g3, .int e4, .int e5, g6, g7, .int e8, .int e9, g10, .int e11]))] H := hP
  have hD : va_D A [(h0, .inr (1, [.ref hX, .ref s2, .null, .null, .int 0, .null])), (hX, .inr (10, [.int e0, .int e1, .ref hCo, g3, .int e4, .int e5, g6, g7, .int e8, .int e9, g10, .int e11]))] := hD
  refine lv_aload_n hx hb dX0_init_14 rfl (lv_at hl 0 rfl) ?_
  refine lv_aload_n hx hb dX0_init_15 rfl (lv_at hl 1 rfl) ?_
  refine va_get (D := (dC, dI)) (ci := 10) (v := .ref hCo) (C := RX9) (T := TX9) (N := 12) hx hb hts (fun w h => List.mem_cons_of_mem _ (uG_X9 w h)) hown hK hP 1 rfl rfl 2 (by decide) (hts _ (List.mem_cons_of_mem _ kw_859)) (fun _ h9 => h9) rfl dX0_init_16 ?_
  refine va_putF (D := (dC, dI)) (ci := 1) (v := .ref hCo) (ty := .object "StreamQueries$Code") (C := RX0) (T := TX0) (N := 6) hx hb hts (fun w h => List.mem_cons_of_mem _ (uG_X0 w h)) tyX0 tyX0_ok nmX0 hown hK hP hD hS 0 rfl rfl 2 (by decide) (hts _ (List.mem_cons_of_mem _ kw_1154)) (fun _ h9 => h9) rfl hin rfl (by decide +kernel) rfl rfl (Nat.le_of_ble_eq_true rfl) dX0_init_19 (fun H locs hP hD hS => ?_)
  have hP : va_P (dC, dI) vwCl [(h0, .inr (1, [.ref hX, .ref s2, .ref hCo, .null, .int 0, .null])), (hX, .inr (10, [.int e0, .int e1, .ref hCo, g3, .int e4, .int e5, g6, g7, .int e8, .int e9, g10, .int e11]))] H := hP
  have hD : va_D A [(h0, .inr (1, [.ref hX, .ref s2, .ref hCo, .null, .int 0, .null])), (hX, .inr (10, [.int e0, .int e1, .ref hCo, g3, .int e4, .int e5, g6, g7, .int e8, .int e9, g10, .int e11]))] := hD
  have hP9 := hP.sub (ws' := [(h0, .inr (1, [.ref hX, .ref s2, .ref hCo, .null, .int 0, .null])), (hX, .inr (10, [.int e0, .int e1, .ref hCo, g3, .int e4, .int e5, g6, g7, .int e8, .int e9, g10, .int e11]))]) [0, 1] rfl
  have hD9 := hD.sub (ws' := [(h0, .inr (1, [.ref hX, .ref s2, .ref hCo, .null, .int 0, .null])), (hX, .inr (10, [.int e0, .int e1, .ref hCo, g3, .int e4, .int e5, g6, g7, .int e8, .int e9, g10, .int e11]))]) [0, 1] (by decide) rfl
  have hK9 := hK.sub (tys' := [(cB, .byte), (cI, .int), (cJ, .long), (cZ, .boolean)]) [0, 1, 2, 3] rfl
  exact W.vret hx hb hr (fun t_ ht hW => ⟨⟨(), rfl, trivial, by rw [ht]; exact hP9, va_K.moved hW.alike hK9, hD9⟩, hS.F ht⟩) hS.2.2 dX0_init_22
theorem dX0_isFaulty_0 : decode cX0_isFaulty 0 = .ok (.aload_n 0, 1) := by decide +kernel
theorem dX0_isFaulty_1 : decode cX0_isFaulty 1 = .ok (.getfield 9, 3) := by decide +kernel
theorem dX0_isFaulty_4 : decode cX0_isFaulty 4 = .ok (.getfield 26, 3) := by decide +kernel
theorem dX0_isFaulty_7 : decode cX0_isFaulty 7 = .ok (.ifCond .eq 7, 3) := by decide +kernel
theorem dX0_isFaulty_10 : decode cX0_isFaulty 10 = .ok (.iconst 1, 1) := by decide +kernel
theorem dX0_isFaulty_11 : decode cX0_isFaulty 11 = .ok (.goto 4, 3) := by decide +kernel
theorem dX0_isFaulty_14 : decode cX0_isFaulty 14 = .ok (.iconst 0, 1) := by decide +kernel
theorem dX0_isFaulty_15 : decode cX0_isFaulty 15 = .ok (.ireturn, 1) := by decide +kernel
abbrev cs_t_X0_isFaulty (cB cI cJ cZ : ClassId) (h0 hX hCo : Nat) (e0 e1 e4 e5 e8 e9 e11 : Int32) (g3 g6 g7 g10 : Value) (c1 c2 c3 : Value) (c4 : Int32) (c5 : Value) : va_W := [(h0, .inr (1, [.ref hX, c1, c2, c3, .int c4, c5])), (hX, .inr (10, [.int e0, .int e1, .ref hCo, g3, .int e4, .int e5, g6, g7, .int e8, .int e9, g10, .int e11]))]
abbrev pc_t_X0_isFaulty (dC : Nat → ClassId) (dI : Nat → Nat → Nat) (sz : Nat) (cB cI cJ cZ : ClassId) (h0 hX hCo : Nat) (e0 e1 e4 e5 e8 e9 e11 : Int32) (g3 g6 g7 g10 : Value) (c1 c2 c3 : Value) (c4 : Int32) (c5 : Value) : Array Value → State → Prop := va_Pc [.ref h0] (fun U => U.heap.size = sz ∧ va_P (dC, dI) vwCl [(h0, .inr (1, [.ref hX, c1, c2, c3, .int c4, c5])), (hX, .inr (10, [.int e0, .int e1, .ref hCo, g3, .int e4, .int e5, g6, g7, .int e8, .int e9, g10, .int e11]))] U.heap ∧ va_K (dC, dI) vwCl [(cB, .byte), (cI, .int), (cJ, .long), (cZ, .boolean)] U ∧ va_D (fun _ => True) [(h0, .inr (1, [.ref hX, c1, c2, c3, .int c4, c5])), (hX, .inr (10, [.int e0, .int e1, .ref hCo, g3, .int e4, .int e5, g6, g7, .int e8, .int e9, g10, .int e11]))])
abbrev qc_t_X0_isFaulty (dC : Nat → ClassId) (dI : Nat → Nat → Nat) (cB cI cJ cZ : ClassId) (h0 hX hCo : Nat) (e0 e1 e4 e5 e8 e9 e11 : Int32) (g3 g6 g7 g10 : Value) (c1 c2 c3 : Value) (c4 : Int32) (c5 : Value) (A : Nat → Prop) : Array Value → State → Outcome → State → Prop := va_Qi (fun (r : Int32) (u : Unit) => match u with | _ => r = hvI e0) (fun (u : Unit) t_ => match u with | _ => va_P (dC, dI) vwCl [(h0, .inr (1, [.ref hX, c1, c2, c3, .int c4, c5])), (hX, .inr (10, [.int e0, .int e1, .ref hCo, g3, .int e4, .int e5, g6, g7, .int e8, .int e9, g10, .int e11]))] t_.heap ∧ va_K (dC, dI) vwCl [(cB, .byte), (cI, .int), (cJ, .long), (cZ, .boolean)] t_ ∧ va_D A [(h0, .inr (1, [.ref hX, c1, c2, c3, .int c4, c5])), (hX, .inr (10, [.int e0, .int e1, .ref hCo, g3, .int e4, .int e5, g6, g7, .int e8, .int e9, g10, .int e11]))]) A
set_option maxHeartbeats 4000000 in
set_option maxRecDepth 100000 in
theorem t_X0_isFaulty (l : Launch) (dC : Nat → ClassId) (dI : Nat → Nat → Nat) (sz : Nat) (cB cI cJ cZ : ClassId) (h0 hX hCo : Nat) (e0 e1 e4 e5 e8 e9 e11 : Int32) (g3 g6 g7 g10 : Value) (c1 c2 c3 : Value) (c4 : Int32) (c5 : Value)  : Met l yX0_isFaulty (wsOf yX0_isFaulty cX0_isFaulty 1 (some .boolean)) ({ frames := 0, cells := 0, slots := 0, locals := 0 }) (pc_t_X0_isFaulty dC dI sz cB cI cJ cZ h0 hX hCo e0 e1 e4 e5 e8 e9 e11 g3 g6 g7 g10 c1 c2 c3 c4 c5) (qc_t_X0_isFaulty dC dI cB cI cJ cZ h0 hX hCo e0 e1 e4 e5 e8 e9 e11 g3 g6 g7 g10 c1 c2 c3 c4 c5 (va_A (cs_t_X0_isFaulty cB cI cJ cZ h0 hX hCo e0 e1 e4 e5 e8 e9 e11 g3 g6 g7 g10 c1 c2 c3 c4 c5) sz)) 0 0 (va_A (cs_t_X0_isFaulty cB cI cJ cZ h0 hX hCo e0 e1 e4 e5 e8 e9 e11 g3 g6 g7 g10 c1 c2 c3 c4 c5) sz) := by
  refine Met.ofW (cc := cX0_isFaulty) (maxL := 1) (ret := (some .boolean)) (by decide) rfl ?_
  intro p e s m args below meth c s₁ B hml hv
  obtain ⟨rfl, hsz, hP, hK, hD0⟩ := hv
  have hx := B.exec
  have hb := B.bytes
  have hr := B.returns
  have hts := atoms_spec (ws := (wsOf yX0_isFaulty cX0_isFaulty 1 (some .boolean))) B.pre
  have hown : s.vm.findClass RX0 = some m.cls := findClass_of_methodNamed B.named
  have hlocks := B.notSynchronized
  subst hsz
  have hD := hD0.self (sz := s.heap.size)
  generalize hAe : va_A (cs_t_X0_isFaulty cB cI cJ cZ h0 hX hCo e0 e1 e4 e5 e8 e9 e11 g3 g6 g7 g10 c1 c2 c3 c4 c5) s.heap.size = A at hD ⊢
  have hA : ∀ q : Nat, s.heap.size ≤ q → A q := fun q h => by rw [← hAe]; exact Or.inr h
  have hS : va_S A s.heap s.heap [] := va_S.rf
  have hP : va_P (dC, dI) vwCl [(h0, .inr (1, [.ref hX, c1, c2, c3, .int c4, c5])), (hX, .inr (10, [.int e0, .int e1, .ref hCo, g3, .int e4, .int e5, g6, g7, .int e8, .int e9, g10, .int e11]))] s.heap := hP
  have hl := lv_entry ([.ref h0]) (n := 1) (Nat.le_of_ble_eq_true rfl)
  rw [lg_entry_eq]
  generalize (lg_sl ([.ref h0]) ++ List.replicate (1 - (lg_sl ([.ref h0])).length) Slot.unset).toArray = ls at hl ⊢
  have hl : lv_has ls 1 [(0, .ref h0)] := hl
  refine lv_aload_n hx hb dX0_isFaulty_0 rfl (lv_at hl 0 rfl) ?_
  refine va_get (D := (dC, dI)) (ci := 1) (v := .ref hX) (C := RX0) (T := TX0) (N := 6) hx hb hts (fun w h => List.mem_cons_of_mem _ (uG_X0 w h)) hown hK hP 0 rfl rfl 0 (by decide) (hts _ (List.mem_cons_of_mem _ kw_1152)) (fun _ h9 => h9) rfl dX0_isFaulty_1 ?_
  refine va_get (D := (dC, dI)) (ci := 10) (v := .int e0) (C := RX9) (T := TX9) (N := 12) hx hb hts (fun w h => List.mem_cons_of_mem _ (uG_X9 w h)) hown hK hP 1 rfl rfl 0 (by decide) (hts _ (List.mem_cons_of_mem _ kw_854)) (fun _ h9 => h9) rfl dX0_isFaulty_4 ?_
  refine lv_if_eq (tgt := 14) hx hb dX0_isFaulty_7 (by decide) (fun c_1 => ?_) (fun c_1 => ?_)
  · skip
    refine lv_iconst (v := 0) hx hb dX0_isFaulty_14 (by decide) ?_
    have hP9 := hP.sub (ws' := [(h0, .inr (1, [.ref hX, c1, c2, c3, .int c4, c5])), (hX, .inr (10, [.int e0, .int e1, .ref hCo, g3, .int e4, .int e5, g6, g7, .int e8, .int e9, g10, .int e11]))]) [0, 1] rfl
    have hD9 := hD.sub (ws' := [(h0, .inr (1, [.ref hX, c1, c2, c3, .int c4, c5])), (hX, .inr (10, [.int e0, .int e1, .ref hCo, g3, .int e4, .int e5, g6, g7, .int e8, .int e9, g10, .int e11]))]) [0, 1] (by decide) rfl
    have hK9 := hK.sub (tys' := [(cB, .byte), (cI, .int), (cJ, .long), (cZ, .boolean)]) [0, 1, 2, 3] rfl
    exact W.zret (v := 0) hx hb hr (by rfl) (fun t_ ht hW => ⟨⟨0, (), rfl, by unfold hvI; rw [if_pos c_1], by rw [ht]; exact hP9, va_K.moved hW.alike hK9, hD9⟩, hS.F ht⟩) hS.2.2 dX0_isFaulty_15
  · skip
    refine lv_iconst (v := 1) hx hb dX0_isFaulty_10 (by decide) ?_
    refine lv_goto (tgt := 15) hx hb dX0_isFaulty_11 (by decide) ?_
    have hP9 := hP.sub (ws' := [(h0, .inr (1, [.ref hX, c1, c2, c3, .int c4, c5])), (hX, .inr (10, [.int e0, .int e1, .ref hCo, g3, .int e4, .int e5, g6, g7, .int e8, .int e9, g10, .int e11]))]) [0, 1] rfl
    have hD9 := hD.sub (ws' := [(h0, .inr (1, [.ref hX, c1, c2, c3, .int c4, c5])), (hX, .inr (10, [.int e0, .int e1, .ref hCo, g3, .int e4, .int e5, g6, g7, .int e8, .int e9, g10, .int e11]))]) [0, 1] (by decide) rfl
    have hK9 := hK.sub (tys' := [(cB, .byte), (cI, .int), (cJ, .long), (cZ, .boolean)]) [0, 1, 2, 3] rfl
    exact W.zret (v := 1) hx hb hr (by rfl) (fun t_ ht hW => ⟨⟨1, (), rfl, by unfold hvI; rw [if_neg c_1], by rw [ht]; exact hP9, va_K.moved hW.alike hK9, hD9⟩, hS.F ht⟩) hS.2.2 dX0_isFaulty_15
theorem dX12_sourcesOf_0 : decode cX12_sourcesOf 0 = .ok (.aload_n 0, 1) := by decide +kernel
theorem dX12_sourcesOf_1 : decode cX12_sourcesOf 1 = .ok (.iconst 0, 1) := by decide +kernel
theorem dX12_sourcesOf_2 : decode cX12_sourcesOf 2 = .ok (.putfield 512, 3) := by decide +kernel
theorem dX12_sourcesOf_5 : decode cX12_sourcesOf 5 = .ok (.aload_n 0, 1) := by decide +kernel
theorem dX12_sourcesOf_6 : decode cX12_sourcesOf 6 = .ok (.iload_n 1, 1) := by decide +kernel
theorem dX12_sourcesOf_7 : decode cX12_sourcesOf 7 = .ok (.putfield 518, 3) := by decide +kernel
theorem dX12_sourcesOf_10 : decode cX12_sourcesOf 10 = .ok (.aload_n 0, 1) := by decide +kernel
theorem dX12_sourcesOf_11 : decode cX12_sourcesOf 11 = .ok (.iload_n 2, 1) := by decide +kernel
theorem dX12_sourcesOf_12 : decode cX12_sourcesOf 12 = .ok (.putfield 515, 3) := by decide +kernel
theorem dX12_sourcesOf_15 : decode cX12_sourcesOf 15 = .ok (.return_, 1) := by decide +kernel
abbrev cs_t_X12_sourcesOf (cB cI cJ cZ : ClassId) (h0 : Nat) (a : Nat → Nat) (f : Nat → Int32) (w : Int64) (s1 n1 : Int32) : va_W := [(h0, .inr (13, moF a f w))]
abbrev pc_t_X12_sourcesOf (dC : Nat → ClassId) (dI : Nat → Nat → Nat) (sz : Nat) (cB cI cJ cZ : ClassId) (h0 : Nat) (a : Nat → Nat) (f : Nat → Int32) (w : Int64) (s1 n1 : Int32) : Array Value → State → Prop := va_Pc [.ref h0, .int s1, .int n1] (fun U => U.heap.size = sz ∧ va_P (dC, dI) vwCl [(h0, .inr (13, moF a f w))] U.heap ∧ va_K (dC, dI) vwCl [(cB, .byte), (cI, .int), (cJ, .long), (cZ, .boolean)] U ∧ va_D (fun _ => True) [(h0, .inr (13, moF a f w))])
abbrev qc_t_X12_sourcesOf (dC : Nat → ClassId) (dI : Nat → Nat → Nat) (cB cI cJ cZ : ClassId) (h0 : Nat) (a : Nat → Nat) (f : Nat → Int32) (w : Int64) (s1 n1 : Int32) (A : Nat → Prop) : Array Value → State → Outcome → State → Prop := va_Qv (fun (u : Unit) => match u with | _ => True) (fun (u : Unit) t_ => match u with | _ => va_P (dC, dI) vwCl [(h0, .inr (13, moF a (upd (upd (upd f 76 0) 77 s1) 78 n1) w))] t_.heap ∧ va_K (dC, dI) vwCl [(cB, .byte), (cI, .int), (cJ, .long), (cZ, .boolean)] t_ ∧ va_D A [(h0, .inr (13, moF a (upd (upd (upd f 76 0) 77 s1) 78 n1) w))]) A
set_option maxHeartbeats 4000000 in
set_option maxRecDepth 100000 in
theorem t_X12_sourcesOf (l : Launch) (dC : Nat → ClassId) (dI : Nat → Nat → Nat) (sz : Nat) (cB cI cJ cZ : ClassId) (h0 : Nat) (a : Nat → Nat) (f : Nat → Int32) (w : Int64) (s1 n1 : Int32)  : Met l yX12_sourcesOf (wsOf yX12_sourcesOf cX12_sourcesOf 3 none) ({ frames := 0, cells := 0, slots := 0, locals := 0 }) (pc_t_X12_sourcesOf dC dI sz cB cI cJ cZ h0 a f w s1 n1) (qc_t_X12_sourcesOf dC dI cB cI cJ cZ h0 a f w s1 n1 (va_A (cs_t_X12_sourcesOf cB cI cJ cZ h0 a f w s1 n1) sz)) 0 0 (va_A (cs_t_X12_sourcesOf cB cI cJ cZ h0 a f w s1 n1) sz) := by
  refine Met.ofW (cc := cX12_sourcesOf) (maxL := 3) (ret := none) (by decide) rfl ?_
  intro p e s m args below meth c s₁ B hml hv
  obtain ⟨rfl, hsz, hP, hK, hD0⟩ := hv
  have hx := B.exec
  have hb := B.bytes
  have hr := B.returns
  have hts := atoms_spec (ws := (wsOf yX12_sourcesOf cX12_sourcesOf 3 none)) B.pre
  have hown : s.vm.findClass RX12 = some m.cls := findClass_of_methodNamed B.named
  have hlocks := B.notSynchronized
  subst hsz
  have hD := hD0.self (sz := s.heap.size)
  generalize hAe : va_A (cs_t_X12_sourcesOf cB cI cJ cZ h0 a f w s1 n1) s.heap.size = A at hD ⊢
  have hA : ∀ q : Nat, s.heap.size ≤ q → A q := fun q h => by rw [← hAe]; exact Or.inr h
  have hS : va_S A s.heap s.heap [] := va_S.rf
  have hP : va_P (dC, dI) vwCl [(h0, .inr (13, moF a f w))] s.heap := hP
  have hl := lv_entry ([.ref h0, .int s1, .int n1]) (n := 3) (Nat.le_of_ble_eq_true rfl)
  rw [lg_entry_eq]
  generalize (lg_sl ([.ref h0, .int s1, .int n1]) ++ List.replicate (3 - (lg_sl ([.ref h0, .int s1, .int n1])).length) Slot.unset).toArray = ls at hl ⊢
  have hl : lv_has ls 3 [(0, .ref h0), (1, .int s1), (2, .int n1)] := hl
  refine lv_aload_n hx hb dX12_sourcesOf_0 rfl (lv_at hl 0 rfl) ?_
  refine lv_iconst (v := 0) hx hb dX12_sourcesOf_1 (by decide) ?_
  refine va_put (D := (dC, dI)) (ci := 13) (v := .int 0) (ty := .int) (C := RX12) (T := TX12) (N := 115) hx hb hts (fun w h => List.mem_cons_of_mem _ (uG_X12 w h)) tyX12 tyX12_ok nmX12 hown hK hP hD hS 0 rfl rfl 76 (by decide) (hts _ (List.mem_cons_of_mem _ kw_1767)) (fun _ h9 => h9) rfl (by decide +kernel) rfl rfl (Nat.le_of_ble_eq_true rfl) dX12_sourcesOf_2 (fun H locs hP hD hS => ?_)
  have hP : va_P (dC, dI) vwCl [(h0, .inr (13, moF a (upd f 76 0) w))] H := hP
  have hD : va_D A [(h0, .inr (13, moF a (upd f 76 0) w))] := hD
  refine lv_aload_n hx hb dX12_sourcesOf_5 rfl (lv_at hl 0 rfl) ?_
  refine lv_iload_n hx hb dX12_sourcesOf_6 rfl (lv_at hl 1 rfl) ?_
  refine va_put (D := (dC, dI)) (ci := 13) (v := .int s1) (ty := .int) (C := RX12) (T := TX12) (N := 115) hx hb hts (fun w h => List.mem_cons_of_mem _ (uG_X12 w h)) tyX12 tyX12_ok nmX12 hown hK hP hD hS 0 rfl rfl 77 (by decide) (hts _ (List.mem_cons_of_mem _ kw_1768)) (fun _ h9 => h9) rfl (by decide +kernel) rfl rfl (Nat.le_of_ble_eq_true rfl) dX12_sourcesOf_7 (fun H locs hP hD hS => ?_)
  have hP : va_P (dC, dI) vwCl [(h0, .inr (13, moF a (upd (upd f 76 0) 77 s1) w))] H := hP
  have hD : va_D A [(h0, .inr (13, moF a (upd (upd f 76 0) 77 s1) w))] := hD
  refine lv_aload_n hx hb dX12_sourcesOf_10 rfl (lv_at hl 0 rfl) ?_
  refine lv_iload_n hx hb dX12_sourcesOf_11 rfl (lv_at hl 2 rfl) ?_
  refine va_put (D := (dC, dI)) (ci := 13) (v := .int n1) (ty := .int) (C := RX12) (T := TX12) (N := 115) hx hb hts (fun w h => List.mem_cons_of_mem _ (uG_X12 w h)) tyX12 tyX12_ok nmX12 hown hK hP hD hS 0 rfl rfl 78 (by decide) (hts _ (List.mem_cons_of_mem _ kw_1769)) (fun _ h9 => h9) rfl (by decide +kernel) rfl rfl (Nat.le_of_ble_eq_true rfl) dX12_sourcesOf_12 (fun H locs hP hD hS => ?_)
  have hP : va_P (dC, dI) vwCl [(h0, .inr (13, moF a (upd (upd (upd f 76 0) 77 s1) 78 n1) w))] H := hP
  have hD : va_D A [(h0, .inr (13, moF a (upd (upd (upd f 76 0) 77 s1) 78 n1) w))] := hD
  have hP9 := hP.sub (ws' := [(h0, .inr (13, moF a (upd (upd (upd f 76 0) 77 s1) 78 n1) w))]) [0] rfl
  have hD9 := hD.sub (ws' := [(h0, .inr (13, moF a (upd (upd (upd f 76 0) 77 s1) 78 n1) w))]) [0] (by decide) rfl
  have hK9 := hK.sub (tys' := [(cB, .byte), (cI, .int), (cJ, .long), (cZ, .boolean)]) [0, 1, 2, 3] rfl
  exact W.vret hx hb hr (fun t_ ht hW => ⟨⟨(), rfl, trivial, by rw [ht]; exact hP9, va_K.moved hW.alike hK9, hD9⟩, hS.F ht⟩) hS.2.2 dX12_sourcesOf_15
theorem dX12_bounded_0 : decode cX12_bounded 0 = .ok (.iload_n 1, 1) := by decide +kernel
theorem dX12_bounded_1 : decode cX12_bounded 1 = .ok (.ifCond .ne 16, 3) := by decide +kernel
theorem dX12_bounded_4 : decode cX12_bounded 4 = .ok (.aload_n 0, 1) := by decide +kernel
theorem dX12_bounded_5 : decode cX12_bounded 5 = .ok (.getfield 552, 3) := by decide +kernel
theorem dX12_bounded_8 : decode cX12_bounded 8 = .ok (.ifCond .ne 9, 3) := by decide +kernel
theorem dX12_bounded_11 : decode cX12_bounded 11 = .ok (.aload_n 0, 1) := by decide +kernel
theorem dX12_bounded_12 : decode cX12_bounded 12 = .ok (.iconst 5, 1) := by decide +kernel
theorem dX12_bounded_13 : decode cX12_bounded 13 = .ok (.iload_n 2, 1) := by decide +kernel
theorem dX12_bounded_14 : decode cX12_bounded 14 = .ok (.invokevirtual 305, 3) := by decide +kernel
theorem dX12_bounded_17 : decode cX12_bounded 17 = .ok (.return_, 1) := by decide +kernel
abbrev cs_t_X12_bounded_k (cB cI cJ cZ : ClassId) (h0 : Nat) (a : Nat → Nat) (f : Nat → Int32) (w : Int64) (k1 p1 : Int32) : va_W := [(h0, .inr (13, moF a f w))]
abbrev pc_t_X12_bounded_k (dC : Nat → ClassId) (dI : Nat → Nat → Nat) (sz : Nat) (cB cI cJ cZ : ClassId) (h0 : Nat) (a : Nat → Nat) (f : Nat → Int32) (w : Int64) (k1 p1 : Int32) : Array Value → State → Prop := va_Pc [.ref h0, .int k1, .int p1] (fun U => U.heap.size = sz ∧ va_P (dC, dI) vwCl [(h0, .inr (13, moF a f w))] U.heap ∧ va_K (dC, dI) vwCl [(cB, .byte), (cI, .int), (cJ, .long), (cZ, .boolean)] U ∧ va_D (fun _ => True) [(h0, .inr (13, moF a f w))])
abbrev qc_t_X12_bounded_k (dC : Nat → ClassId) (dI : Nat → Nat → Nat) (cB cI cJ cZ : ClassId) (h0 : Nat) (a : Nat → Nat) (f : Nat → Int32) (w : Int64) (k1 p1 : Int32) (A : Nat → Prop) : Array Value → State → Outcome → State → Prop := va_Qv (fun (u : Unit) => match u with | _ => True) (fun (u : Unit) t_ => match u with | _ => va_P (dC, dI) vwCl [(h0, .inr (13, moF a f w))] t_.heap ∧ va_K (dC, dI) vwCl [(cB, .byte), (cI, .int), (cJ, .long), (cZ, .boolean)] t_ ∧ va_D A [(h0, .inr (13, moF a f w))]) A
set_option maxHeartbeats 4000000 in
set_option maxRecDepth 100000 in
theorem t_X12_bounded_k (l : Launch) (dC : Nat → ClassId) (dI : Nat → Nat → Nat) (sz : Nat) (cB cI cJ cZ : ClassId) (h0 : Nat) (a : Nat → Nat) (f : Nat → Int32) (w : Int64) (k1 p1 : Int32) (hk : ¬ k1 = 0) : Met l yX12_bounded (wsOf yX12_bounded cX12_bounded 3 none) ({ frames := 1, cells := 0, slots := 0, locals := 60 }) (pc_t_X12_bounded_k dC dI sz cB cI cJ cZ h0 a f w k1 p1) (qc_t_X12_bounded_k dC dI cB cI cJ cZ h0 a f w k1 p1 (va_A (cs_t_X12_bounded_k cB cI cJ cZ h0 a f w k1 p1) sz)) 0 0 (va_A (cs_t_X12_bounded_k cB cI cJ cZ h0 a f w k1 p1) sz) := by
  refine Met.ofW (cc := cX12_bounded) (maxL := 3) (ret := none) (by decide) rfl ?_
  intro p e s m args below meth c s₁ B hml hv
  obtain ⟨rfl, hsz, hP, hK, hD0⟩ := hv
  have hx := B.exec
  have hb := B.bytes
  have hr := B.returns
  have hts := atoms_spec (ws := (wsOf yX12_bounded cX12_bounded 3 none)) B.pre
  have hown : s.vm.findClass RX12 = some m.cls := findClass_of_methodNamed B.named
  have hlocks := B.notSynchronized
  subst hsz
  have hD := hD0.self (sz := s.heap.size)
  generalize hAe : va_A (cs_t_X12_bounded_k cB cI cJ cZ h0 a f w k1 p1) s.heap.size = A at hD ⊢
  have hA : ∀ q : Nat, s.heap.size ≤ q → A q := fun q h => by rw [← hAe]; exact Or.inr h
  have hS : va_S A s.heap s.heap [] := va_S.rf
  have hP : va_P (dC, dI) vwCl [(h0, .inr (13, moF a f w))] s.heap := hP
  have hl := lv_entry ([.ref h0, .int k1, .int p1]) (n := 3) (Nat.le_of_ble_eq_true rfl)
  rw [lg_entry_eq]
  generalize (lg_sl ([.ref h0, .int k1, .int p1]) ++ List.replicate (3 - (lg_sl ([.ref h0, .int k1, .int p1])).length) Slot.unset).toArray = ls at hl ⊢
  have hl : lv_has ls 3 [(0, .ref h0), (1, .int k1), (2, .int p1)] := hl
  refine lv_iload_n hx hb dX12_bounded_0 rfl (lv_at hl 1 rfl) ?_
  refine lv_if_ne (tgt := 17) hx hb dX12_bounded_1 (by decide) (fun c_1 => ?_) (fun c_1 => ?_)
  · skip
    have hP9 := hP.sub (ws' := [(h0, .inr (13, moF a f w))]) [0] rfl
    have hD9 := hD.sub (ws' := [(h0, .inr (13, moF a f w))]) [0] (by decide) rfl
    have hK9 := hK.sub (tys' := [(cB, .byte), (cI, .int), (cJ, .long), (cZ, .boolean)]) [0, 1, 2, 3] rfl
    exact W.vret hx hb hr (fun t_ ht hW => ⟨⟨(), rfl, trivial, by rw [ht]; exact hP9, va_K.moved hW.alike hK9, hD9⟩, hS.F ht⟩) hS.2.2 dX12_bounded_17
  · skip
    exact absurd c_1 hk
abbrev cs_t_X12_bounded_u (cB cI cJ cZ : ClassId) (h0 : Nat) (a : Nat → Nat) (f : Nat → Int32) (w : Int64) (p1 : Int32) : va_W := [(h0, .inr (13, moF a f w))]
abbrev pc_t_X12_bounded_u (dC : Nat → ClassId) (dI : Nat → Nat → Nat) (sz : Nat) (cB cI cJ cZ : ClassId) (h0 : Nat) (a : Nat → Nat) (f : Nat → Int32) (w : Int64) (p1 : Int32) : Array Value → State → Prop := va_Pc [.ref h0, .int 0, .int p1] (fun U => U.heap.size = sz ∧ va_P (dC, dI) vwCl [(h0, .inr (13, moF a f w))] U.heap ∧ va_K (dC, dI) vwCl [(cB, .byte), (cI, .int), (cJ, .long), (cZ, .boolean)] U ∧ va_D (fun _ => True) [(h0, .inr (13, moF a f w))])
abbrev qc_t_X12_bounded_u (dC : Nat → ClassId) (dI : Nat → Nat → Nat) (cB cI cJ cZ : ClassId) (h0 : Nat) (a : Nat → Nat) (f : Nat → Int32) (w : Int64) (p1 : Int32) (A : Nat → Prop) : Array Value → State → Outcome → State → Prop := va_Qv (fun (u : Unit) => match u with | _ => True) (fun (u : Unit) t_ => match u with | _ => va_P (dC, dI) vwCl [(h0, .inr (13, moF a f w))] t_.heap ∧ va_K (dC, dI) vwCl [(cB, .byte), (cI, .int), (cJ, .long), (cZ, .boolean)] t_ ∧ va_D A [(h0, .inr (13, moF a f w))]) A
set_option maxHeartbeats 4000000 in
set_option maxRecDepth 100000 in
theorem t_X12_bounded_u (l : Launch) (dC : Nat → ClassId) (dI : Nat → Nat → Nat) (sz : Nat) (cB cI cJ cZ : ClassId) (h0 : Nat) (a : Nat → Nat) (f : Nat → Int32) (w : Int64) (p1 : Int32) (hu : ¬ f 75 = 0) : Met l yX12_bounded (wsOf yX12_bounded cX12_bounded 3 none) ({ frames := 1, cells := 0, slots := 0, locals := 60 }) (pc_t_X12_bounded_u dC dI sz cB cI cJ cZ h0 a f w p1) (qc_t_X12_bounded_u dC dI cB cI cJ cZ h0 a f w p1 (va_A (cs_t_X12_bounded_u cB cI cJ cZ h0 a f w p1) sz)) 0 0 (va_A (cs_t_X12_bounded_u cB cI cJ cZ h0 a f w p1) sz) := by
  refine Met.ofW (cc := cX12_bounded) (maxL := 3) (ret := none) (by decide) rfl ?_
  intro p e s m args below meth c s₁ B hml hv
  obtain ⟨rfl, hsz, hP, hK, hD0⟩ := hv
  have hx := B.exec
  have hb := B.bytes
  have hr := B.returns
  have hts := atoms_spec (ws := (wsOf yX12_bounded cX12_bounded 3 none)) B.pre
  have hown : s.vm.findClass RX12 = some m.cls := findClass_of_methodNamed B.named
  have hlocks := B.notSynchronized
  subst hsz
  have hD := hD0.self (sz := s.heap.size)
  generalize hAe : va_A (cs_t_X12_bounded_u cB cI cJ cZ h0 a f w p1) s.heap.size = A at hD ⊢
  have hA : ∀ q : Nat, s.heap.size ≤ q → A q := fun q h => by rw [← hAe]; exact Or.inr h
  have hS : va_S A s.heap s.heap [] := va_S.rf
  have hP : va_P (dC, dI) vwCl [(h0, .inr (13, moF a f w))] s.heap := hP
  have hl := lv_entry ([.ref h0, .int 0, .int p1]) (n := 3) (Nat.le_of_ble_eq_true rfl)
  rw [lg_entry_eq]
  generalize (lg_sl ([.ref h0, .int 0, .int p1]) ++ List.replicate (3 - (lg_sl ([.ref h0, .int 0, .int p1])).length) Slot.unset).toArray = ls at hl ⊢
  have hl : lv_has ls 3 [(0, .ref h0), (1, .int 0), (2, .int p1)] := hl
  refine lv_iload_n hx hb dX12_bounded_0 rfl (lv_at hl 1 rfl) ?_
  refine lv_if_ne (tgt := 17) hx hb dX12_bounded_1 (by decide) (fun c_1 => ?_) (fun c_1 => ?_)
  · skip
    exact absurd c_1 (by decide)
  · skip
    refine lv_aload_n hx hb dX12_bounded_4 rfl (lv_at hl 0 rfl) ?_
    refine va_get (D := (dC, dI)) (ci := 13) (v := .int (f 75)) (C := RX12) (T := TX12) (N := 115) hx hb hts (fun w h => List.mem_cons_of_mem _ (uG_X12 w h)) hown hK hP 0 rfl rfl 75 (by decide) (hts _ (List.mem_cons_of_mem _ kw_1766)) (fun _ h9 => h9) rfl dX12_bounded_5 ?_
    refine lv_if_ne (tgt := 17) hx hb dX12_bounded_8 (by decide) (fun c_2 => ?_) (fun c_2 => ?_)
    · skip
      have hP9 := hP.sub (ws' := [(h0, .inr (13, moF a f w))]) [0] rfl
      have hD9 := hD.sub (ws' := [(h0, .inr (13, moF a f w))]) [0] (by decide) rfl
      have hK9 := hK.sub (tys' := [(cB, .byte), (cI, .int), (cJ, .long), (cZ, .boolean)]) [0, 1, 2, 3] rfl
      exact W.vret hx hb hr (fun t_ ht hW => ⟨⟨(), rfl, trivial, by rw [ht]; exact hP9, va_K.moved hW.alike hK9, hD9⟩, hS.F ht⟩) hS.2.2 dX12_bounded_17
    · skip
      exact absurd c_2 hu
abbrev cs_t_X12_bounded_1 (cB cI cJ cZ : ClassId) (h0 : Nat) (a : Nat → Nat) (f : Nat → Int32) (w : Int64) (p1 : Int32) : va_W := [(h0, .inr (13, moF a f w))]
abbrev pc_t_X12_bounded_1 (dC : Nat → ClassId) (dI : Nat → Nat → Nat) (sz : Nat) (cB cI cJ cZ : ClassId) (h0 : Nat) (a : Nat → Nat) (f : Nat → Int32) (w : Int64) (p1 : Int32) : Array Value → State → Prop := va_Pc [.ref h0, .int 0, .int p1] (fun U => U.heap.size = sz ∧ va_P (dC, dI) vwCl [(h0, .inr (13, moF a f w))] U.heap ∧ va_K (dC, dI) vwCl [(cB, .byte), (cI, .int), (cJ, .long), (cZ, .boolean)] U ∧ va_D (fun _ => True) [(h0, .inr (13, moF a f w))])
abbrev qc_t_X12_bounded_1 (dC : Nat → ClassId) (dI : Nat → Nat → Nat) (cB cI cJ cZ : ClassId) (h0 : Nat) (a : Nat → Nat) (f : Nat → Int32) (w : Int64) (p1 : Int32) (A : Nat → Prop) : Array Value → State → Outcome → State → Prop := va_Qv (fun (u : Unit) => match u with | _ => True) (fun (u : Unit) t_ => match u with | _ => va_P (dC, dI) vwCl [(h0, .inr (13, moF a (upd (upd (upd f 21 0) 19 5) 20 p1) w))] t_.heap ∧ va_K (dC, dI) vwCl [(cB, .byte), (cI, .int), (cJ, .long), (cZ, .boolean)] t_ ∧ va_D A [(h0, .inr (13, moF a (upd (upd (upd f 21 0) 19 5) 20 p1) w))]) A
set_option maxHeartbeats 4000000 in
set_option maxRecDepth 100000 in
theorem t_X12_bounded_1 (l : Launch) (dC : Nat → ClassId) (dI : Nat → Nat → Nat) (sz : Nat) (cB cI cJ cZ : ClassId) (h0 : Nat) (a : Nat → Nat) (f : Nat → Int32) (w : Int64) (p1 : Int32) (hu : f 75 = 0) (hg : ¬ f 21 = 0) : Met l yX12_bounded (wsOf yX12_bounded cX12_bounded 3 none) ({ frames := 1, cells := 0, slots := 0, locals := 60 }) (pc_t_X12_bounded_1 dC dI sz cB cI cJ cZ h0 a f w p1) (qc_t_X12_bounded_1 dC dI cB cI cJ cZ h0 a f w p1 (va_A (cs_t_X12_bounded_1 cB cI cJ cZ h0 a f w p1) sz)) 0 0 (va_A (cs_t_X12_bounded_1 cB cI cJ cZ h0 a f w p1) sz) := by
  refine Met.ofW (cc := cX12_bounded) (maxL := 3) (ret := none) (by decide) rfl ?_
  intro p e s m args below meth c s₁ B hml hv
  obtain ⟨rfl, hsz, hP, hK, hD0⟩ := hv
  have hx := B.exec
  have hb := B.bytes
  have hr := B.returns
  have hts := atoms_spec (ws := (wsOf yX12_bounded cX12_bounded 3 none)) B.pre
  have hown : s.vm.findClass RX12 = some m.cls := findClass_of_methodNamed B.named
  have hlocks := B.notSynchronized
  subst hsz
  have hD := hD0.self (sz := s.heap.size)
  generalize hAe : va_A (cs_t_X12_bounded_1 cB cI cJ cZ h0 a f w p1) s.heap.size = A at hD ⊢
  have hA : ∀ q : Nat, s.heap.size ≤ q → A q := fun q h => by rw [← hAe]; exact Or.inr h
  have hS : va_S A s.heap s.heap [] := va_S.rf
  have hP : va_P (dC, dI) vwCl [(h0, .inr (13, moF a f w))] s.heap := hP
  have hl := lv_entry ([.ref h0, .int 0, .int p1]) (n := 3) (Nat.le_of_ble_eq_true rfl)
  rw [lg_entry_eq]
  generalize (lg_sl ([.ref h0, .int 0, .int p1]) ++ List.replicate (3 - (lg_sl ([.ref h0, .int 0, .int p1])).length) Slot.unset).toArray = ls at hl ⊢
  have hl : lv_has ls 3 [(0, .ref h0), (1, .int 0), (2, .int p1)] := hl
  refine lv_iload_n hx hb dX12_bounded_0 rfl (lv_at hl 1 rfl) ?_
  refine lv_if_ne (tgt := 17) hx hb dX12_bounded_1 (by decide) (fun c_1 => ?_) (fun c_1 => ?_)
  · skip
    exact absurd c_1 (by decide)
  · skip
    refine lv_aload_n hx hb dX12_bounded_4 rfl (lv_at hl 0 rfl) ?_
    refine va_get (D := (dC, dI)) (ci := 13) (v := .int (f 75)) (C := RX12) (T := TX12) (N := 115) hx hb hts (fun w h => List.mem_cons_of_mem _ (uG_X12 w h)) hown hK hP 0 rfl rfl 75 (by decide) (hts _ (List.mem_cons_of_mem _ kw_1766)) (fun _ h9 => h9) rfl dX12_bounded_5 ?_
    refine lv_if_ne (tgt := 17) hx hb dX12_bounded_8 (by decide) (fun c_2 => ?_) (fun c_2 => ?_)
    · skip
      exact absurd hu c_2
    · skip
      refine lv_aload_n hx hb dX12_bounded_11 rfl (lv_at hl 0 rfl) ?_
      refine lv_iconst (v := 5) hx hb dX12_bounded_12 (by decide) ?_
      refine lv_iload_n hx hb dX12_bounded_13 rfl (lv_at hl 2 rfl) ?_
      have hPc := hP.sub (ws' := [(h0, .inr (13, moF a f w))]) [0] rfl
      have hDc := hD.sub (ws' := [(h0, .inr (13, moF a f w))]) [0] (by decide) rfl
      have hKc := hK.sub (tys' := [(cB, .byte), (cI, .int), (cJ, .long), (cZ, .boolean)]) [0, 1, 2, 3] rfl
      have hFc := va_free (wc := [(h0, .inr (13, moF a f w))]) hD hS hA [0] rfl
      refine va_callv (va_runV (As := [.int 5, .int p1]) (rest := []) ⟨hx, hb, hml, hown, hts⟩ (t_X12_tell_1 l dC dI s.heap.size cB cI cJ cZ h0 a f w 5 p1 hg) (cwV 2 hts (gd_all (in_V kw_2269 kw_2271 kw_141 kw_191 kc_X12_tell)) rfl rfl rfl (by decide +kernel) ⟨Nat.le_of_ble_eq_true rfl, Nat.le_of_ble_eq_true rfl⟩) ⟨fun a U g mk q => by obtain ⟨q0, q1, qP, qK, qD⟩ := q; exact ⟨q0, q1, qP, va_K.moved (u := U) (U := U.calling g mk a) (Vm.Alike.refl U.vm) qK, qD⟩, va_recv hKc hPc (ci := 13) (q0 := 0) rfl rfl, fun U hU hW => ⟨rfl, by rw [hU], by rw [hU]; exact hPc, va_K.moved hW.alike hKc, hDc.weaken (fun _ _ _ _ => trivial)⟩⟩ rfl rfl hl.1 rfl (lv_room (Nat.le_of_ble_eq_true rfl)) dX12_bounded_14 ⟨Nat.le_of_ble_eq_true rfl, Nat.le_of_ble_eq_true rfl⟩) hS (fun q _ h => hFc q h) hFc (fun u t_ H1 locs ht hvm hw hB hz1 hk1 hS => ?_)
      obtain ⟨hP1, hK1, hD1⟩ := hB
      rw [ht] at hP1
      have hK1 := va_K.moved hvm.symm hK1
      obtain ⟨hP, hD⟩ := va_join (wr := []) (w1 := [(h0, .inr (13, moF a (upd (upd (upd f 21 0) 19 5) 20 p1) w))]) hP hD [0] [] rfl rfl (by decide) (by decide) hk1 hFc hP1 hD1
      have hK := (hK.sub (tys' := []) [] rfl).app hK1
      generalize H1 = H at hP hS ⊢
      have hP : va_P (dC, dI) vwCl [(h0, .inr (13, moF a (upd (upd (upd f 21 0) 19 5) 20 p1) w))] H := hP
      have hD : va_D A [(h0, .inr (13, moF a (upd (upd (upd f 21 0) 19 5) 20 p1) w))] := hD
      have hK : va_K (dC, dI) vwCl [(cB, .byte), (cI, .int), (cJ, .long), (cZ, .boolean)] s := hK
      have hP9 := hP.sub (ws' := [(h0, .inr (13, moF a (upd (upd (upd f 21 0) 19 5) 20 p1) w))]) [0] rfl
      have hD9 := hD.sub (ws' := [(h0, .inr (13, moF a (upd (upd (upd f 21 0) 19 5) 20 p1) w))]) [0] (by decide) rfl
      have hK9 := hK.sub (tys' := [(cB, .byte), (cI, .int), (cJ, .long), (cZ, .boolean)]) [0, 1, 2, 3] rfl
      exact W.vret hx hb hr (fun t_ ht hW => ⟨⟨(), rfl, trivial, by rw [ht]; exact hP9, va_K.moved hW.alike hK9, hD9⟩, hS.F ht⟩) hS.2.2 dX12_bounded_17
