theorem mn120 {n c1 : Nat} (hn : n ≤ 2000) (hc1 : c1 = if n < 120 then n else 120) : (if nI n < 120 then nI n else 120) = nI c1 := by
  subst hc1
  by_cases h9 : n < 120
  · have h8 : nI n < (120 : Int32) := (nI_ltI (a := n) (b := 120) (by omega) (by omega)).mpr h9
    rw [if_pos h9, if_pos h8]
  · have h8 : ¬ nI n < (120 : Int32) := fun h => h9 ((nI_ltI (a := n) (b := 120) (by omega) (by omega)).mp h)
    rw [if_neg h9, if_neg h8]; rfl
theorem va_sameO {D : va_G} {cl : List vw_C} {tys : List (ClassId × FieldType)} {U : State} {C : String} (h : va_K D cl tys U) (i j : Nat) {c1 c2 : ClassId} (h1 : tys[i]? = some (c1, .object C)) (h2 : tys[j]? = some (c2, .object C)) : c1 = c2 := by
  obtain ⟨-, -, -, -, -, e1⟩ := (h.2 i _ h1).2
  obtain ⟨-, -, -, -, -, e2⟩ := (h.2 j _ h2).2
  exact Option.some.inj (e1.symm.trans e2)
theorem uG_Jx4a65c : ∀ w ∈ u_ws RJx4a65c TJx4a65c 3, w ∈ wsG := uG [763, 759, 761] (by decide +kernel) (by decide +kernel)
theorem kw_758 : Cond.sameField "java/util/ArrayList" "java/util/AbstractList" "modCount" "I" ∈ wsG := kG 758 (by decide +kernel) rfl
set_option maxRecDepth 20000 in
theorem kc_Jxa1e45_init_da8c8 : Cond.code yJxa1e45_init_da8c8 cJxa1e45_init_da8c8 1 none ∈ wsG := kGm (tab_3 (List.mem_of_getElem? (i := 90) rfl)) rfl
set_option maxRecDepth 20000 in
theorem kc_Jxc12de_init_da8c8 : Cond.code yJxc12de_init_da8c8 cJxc12de_init_da8c8 1 none ∈ wsG := kGm (tab_3 (List.mem_of_getElem? (i := 87) rfl)) rfl
set_option maxRecDepth 20000 in
theorem kc_Jx4a65c_init_da8c8 : Cond.code yJx4a65c_init_da8c8 cJx4a65c_init_da8c8 1 none ∈ wsG := kGm (tab_3 (List.mem_of_getElem? (i := 84) rfl)) rfl
set_option maxRecDepth 20000 in
theorem kc_Jx4a65c_add_9ea2d : Cond.code yJx4a65c_add_9ea2d cJx4a65c_add_9ea2d 2 (some .boolean) ∈ wsG := kGm (tab_3 (List.mem_of_getElem? (i := 109) rfl)) rfl
set_option maxRecDepth 20000 in
theorem kc_Jx4a65c_add_72be8 : Cond.code yJx4a65c_add_72be8 cJx4a65c_add_72be8 4 none ∈ wsG := kGm (tab_3 (List.mem_of_getElem? (i := 113) rfl)) rfl
set_option maxRecDepth 20000 in
theorem kc_Jx4a65c_grow_d5877 : Cond.code yJx4a65c_grow_d5877 cJx4a65c_grow_d5877 1 (some (.array (.object "java/lang/Object"))) ∈ wsG := kGm (tab_3 (List.mem_of_getElem? (i := 117) rfl)) rfl
set_option maxRecDepth 20000 in
theorem kc_Jx4a65c_grow_92f84 : Cond.code yJx4a65c_grow_92f84 cJx4a65c_grow_92f84 4 (some (.array (.object "java/lang/Object"))) ∈ wsG := kGm (tab_3 (List.mem_of_getElem? (i := 121) rfl)) rfl
theorem dJxa1e45_init_da8c8_0 : decode cJxa1e45_init_da8c8 0 = .ok (.aload_n 0, 1) := by decide +kernel
theorem dJxa1e45_init_da8c8_1 : decode cJxa1e45_init_da8c8 1 = .ok (.invokespecial 1, 3) := by decide +kernel
theorem dJxa1e45_init_da8c8_4 : decode cJxa1e45_init_da8c8 4 = .ok (.return_, 1) := by decide +kernel
abbrev cs_t_AC_init (cB cI cJ cZ cS cO : ClassId) (h0 : Nat) : va_W := []
abbrev pc_t_AC_init (dC : Nat → ClassId) (dI : Nat → Nat → Nat) (sz : Nat) (cB cI cJ cZ cS cO : ClassId) (h0 : Nat) : Array Value → State → Prop := va_Pc [.ref h0] (fun U => U.heap.size = sz ∧ va_P (dC, dI) vwCl [] U.heap ∧ va_K (dC, dI) vwCl [(cB, .byte), (cI, .int), (cJ, .long), (cZ, .boolean), (cS, .object "StreamQueries$Source"), (cO, .object "java/lang/Object")] U ∧ va_D (fun _ => True) [])
abbrev qc_t_AC_init (dC : Nat → ClassId) (dI : Nat → Nat → Nat) (cB cI cJ cZ cS cO : ClassId) (h0 : Nat) (A : Nat → Prop) : Array Value → State → Outcome → State → Prop := va_Qv (fun (u : Unit) => match u with | _ => True) (fun (u : Unit) t_ => match u with | _ => va_P (dC, dI) vwCl [] t_.heap ∧ va_K (dC, dI) vwCl [(cB, .byte), (cI, .int), (cJ, .long), (cZ, .boolean), (cS, .object "StreamQueries$Source"), (cO, .object "java/lang/Object")] t_ ∧ va_D A []) A
set_option maxHeartbeats 4000000 in
set_option maxRecDepth 100000 in
theorem t_AC_init (l : Launch) (dC : Nat → ClassId) (dI : Nat → Nat → Nat) (sz : Nat) (cB cI cJ cZ cS cO : ClassId) (h0 : Nat)  : Met l yJxa1e45_init_da8c8 (wsOf yJxa1e45_init_da8c8 cJxa1e45_init_da8c8 1 none) ({ frames := 1, cells := 0, slots := 0, locals := 60 }) (pc_t_AC_init dC dI sz cB cI cJ cZ cS cO h0) (qc_t_AC_init dC dI cB cI cJ cZ cS cO h0 (va_A (cs_t_AC_init cB cI cJ cZ cS cO h0) sz)) 0 0 (va_A (cs_t_AC_init cB cI cJ cZ cS cO h0) sz) := by
  refine Met.ofW (cc := cJxa1e45_init_da8c8) (maxL := 1) (ret := none) (by decide) rfl ?_
  intro p e s m args below meth c s₁ B hml hv
  obtain ⟨rfl, hsz, hP, hK, hD0⟩ := hv
  have hx := B.exec
  have hb := B.bytes
  have hr := B.returns
  have hts := atoms_spec (ws := (wsOf yJxa1e45_init_da8c8 cJxa1e45_init_da8c8 1 none)) B.pre
  have hown : s.vm.findClass RJxa1e45 = some m.cls := findClass_of_methodNamed B.named
  have hlocks := B.notSynchronized
  have hin : meth.name = "<init>" := (name_of_methodNamed B.named B.method).1
  subst hsz
  have hD := hD0.self (sz := s.heap.size)
  generalize hAe : va_A (cs_t_AC_init cB cI cJ cZ cS cO h0) s.heap.size = A at hD ⊢
  have hA : ∀ q : Nat, s.heap.size ≤ q → A q := fun q h => by rw [← hAe]; exact Or.inr h
  have hS : va_S A s.heap s.heap [] := va_S.rf
  have hP : va_P (dC, dI) vwCl [] s.heap := hP
  have hl := lv_entry ([.ref h0]) (n := 1) (Nat.le_of_ble_eq_true rfl)
  rw [lg_entry_eq]
  generalize (lg_sl ([.ref h0]) ++ List.replicate (1 - (lg_sl ([.ref h0])).length) Slot.unset).toArray = ls at hl ⊢
  have hl : lv_has ls 1 [(0, .ref h0)] := hl
  refine lv_aload_n hx hb dJxa1e45_init_da8c8_0 rfl (lv_at hl 0 rfl) ?_
  refine W.objInit hx hb hown (hts _ (List.mem_cons_of_mem _ kw_751)) (hts _ (List.mem_cons_of_mem _ kw_214)) (hts _ (List.mem_cons_of_mem _ kc_objectInit)) rfl (by rw [hml]; exact hl.1) rfl dJxa1e45_init_da8c8_1 (Nat.le_of_ble_eq_true rfl) (Nat.le_of_ble_eq_true rfl) ?_
  refine W.eq (g2 := F0 m 4 ls []) rfl ?_
  have hP9 := hP.sub (ws' := []) [] rfl
  have hD9 := hD.sub (ws' := []) [] (by decide) rfl
  have hK9 := hK.sub (tys' := [(cB, .byte), (cI, .int), (cJ, .long), (cZ, .boolean), (cS, .object "StreamQueries$Source"), (cO, .object "java/lang/Object")]) [0, 1, 2, 3, 4, 5] rfl
  exact W.vret hx hb hr (fun t_ ht hW => ⟨⟨(), rfl, trivial, by rw [ht]; exact hP9, va_K.moved hW.alike hK9, hD9⟩, hS.F ht⟩) hS.2.2 dJxa1e45_init_da8c8_4
theorem dJxc12de_init_da8c8_0 : decode cJxc12de_init_da8c8 0 = .ok (.aload_n 0, 1) := by decide +kernel
theorem dJxc12de_init_da8c8_1 : decode cJxc12de_init_da8c8 1 = .ok (.invokespecial 1, 3) := by decide +kernel
theorem dJxc12de_init_da8c8_4 : decode cJxc12de_init_da8c8 4 = .ok (.aload_n 0, 1) := by decide +kernel
theorem dJxc12de_init_da8c8_5 : decode cJxc12de_init_da8c8 5 = .ok (.iconst 0, 1) := by decide +kernel
theorem dJxc12de_init_da8c8_6 : decode cJxc12de_init_da8c8 6 = .ok (.putfield 7, 3) := by decide +kernel
theorem dJxc12de_init_da8c8_9 : decode cJxc12de_init_da8c8 9 = .ok (.return_, 1) := by decide +kernel
abbrev cs_t_AL0_init (cB cI cJ cZ cS cO : ClassId) (h0 : Nat) (w1 : Value) (s1 : Int32) : va_W := [(h0, .inr (0, [.int 0, w1, .int s1]))]
abbrev pc_t_AL0_init (dC : Nat → ClassId) (dI : Nat → Nat → Nat) (sz : Nat) (cB cI cJ cZ cS cO : ClassId) (h0 : Nat) (w1 : Value) (s1 : Int32) : Array Value → State → Prop := va_Pc [.ref h0] (fun U => U.heap.size = sz ∧ va_P (dC, dI) vwCl [(h0, .inr (0, [.int 0, w1, .int s1]))] U.heap ∧ va_K (dC, dI) vwCl [(cB, .byte), (cI, .int), (cJ, .long), (cZ, .boolean), (cS, .object "StreamQueries$Source"), (cO, .object "java/lang/Object")] U ∧ va_D (fun _ => True) [(h0, .inr (0, [.int 0, w1, .int s1]))])
abbrev qc_t_AL0_init (dC : Nat → ClassId) (dI : Nat → Nat → Nat) (cB cI cJ cZ cS cO : ClassId) (h0 : Nat) (w1 : Value) (s1 : Int32) (A : Nat → Prop) : Array Value → State → Outcome → State → Prop := va_Qv (fun (u : Unit) => match u with | _ => True) (fun (u : Unit) t_ => match u with | _ => va_P (dC, dI) vwCl [(h0, .inr (0, [.int 0, w1, .int s1]))] t_.heap ∧ va_K (dC, dI) vwCl [(cB, .byte), (cI, .int), (cJ, .long), (cZ, .boolean), (cS, .object "StreamQueries$Source"), (cO, .object "java/lang/Object")] t_ ∧ va_D A [(h0, .inr (0, [.int 0, w1, .int s1]))]) A
set_option maxHeartbeats 4000000 in
set_option maxRecDepth 100000 in
theorem t_AL0_init (l : Launch) (dC : Nat → ClassId) (dI : Nat → Nat → Nat) (sz : Nat) (cB cI cJ cZ cS cO : ClassId) (h0 : Nat) (w1 : Value) (s1 : Int32)  : Met l yJxc12de_init_da8c8 (wsOf yJxc12de_init_da8c8 cJxc12de_init_da8c8 1 none) ({ frames := 2, cells := 0, slots := 0, locals := 120 }) (pc_t_AL0_init dC dI sz cB cI cJ cZ cS cO h0 w1 s1) (qc_t_AL0_init dC dI cB cI cJ cZ cS cO h0 w1 s1 (va_A (cs_t_AL0_init cB cI cJ cZ cS cO h0 w1 s1) sz)) 0 0 (va_A (cs_t_AL0_init cB cI cJ cZ cS cO h0 w1 s1) sz) := by
  refine Met.ofW (cc := cJxc12de_init_da8c8) (maxL := 1) (ret := none) (by decide) rfl ?_
  intro p e s m args below meth c s₁ B hml hv
  obtain ⟨rfl, hsz, hP, hK, hD0⟩ := hv
  have hx := B.exec
  have hb := B.bytes
  have hr := B.returns
  have hts := atoms_spec (ws := (wsOf yJxc12de_init_da8c8 cJxc12de_init_da8c8 1 none)) B.pre
  have hown : s.vm.findClass RJxc12de = some m.cls := findClass_of_methodNamed B.named
  have hlocks := B.notSynchronized
  have hin : meth.name = "<init>" := (name_of_methodNamed B.named B.method).1
  subst hsz
  have hD := hD0.self (sz := s.heap.size)
  generalize hAe : va_A (cs_t_AL0_init cB cI cJ cZ cS cO h0 w1 s1) s.heap.size = A at hD ⊢
  have hA : ∀ q : Nat, s.heap.size ≤ q → A q := fun q h => by rw [← hAe]; exact Or.inr h
  have hS : va_S A s.heap s.heap [] := va_S.rf
  have hP : va_P (dC, dI) vwCl [(h0, .inr (0, [.int 0, w1, .int s1]))] s.heap := hP
  have hl := lv_entry ([.ref h0]) (n := 1) (Nat.le_of_ble_eq_true rfl)
  rw [lg_entry_eq]
  generalize (lg_sl ([.ref h0]) ++ List.replicate (1 - (lg_sl ([.ref h0])).length) Slot.unset).toArray = ls at hl ⊢
  have hl : lv_has ls 1 [(0, .ref h0)] := hl
  refine lv_aload_n hx hb dJxc12de_init_da8c8_0 rfl (lv_at hl 0 rfl) ?_
  have hPc := hP.sub (ws' := []) [] rfl
  have hDc := hD.sub (ws' := []) [] (by decide) rfl
  have hKc := hK.sub (tys' := [(cB, .byte), (cI, .int), (cJ, .long), (cZ, .boolean), (cS, .object "StreamQueries$Source"), (cO, .object "java/lang/Object")]) [0, 1, 2, 3, 4, 5] rfl
  have hFc := va_free (wc := []) hD hS hA [] rfl
  refine va_callv (va_runI (As := []) (rest := []) ⟨hx, hb, hml, hown, hts⟩ (t_AC_init l dC dI s.heap.size cB cI cJ cZ cS cO h0) (cwI 0 hts (gd_all (in_I kc_Jxa1e45_init_da8c8)) rfl rfl rfl (hts _ (List.mem_cons_of_mem _ kw_197)) (hts _ (List.mem_cons_of_mem _ kw_748)) (hts _ (List.mem_cons_of_mem _ kw_749)) rfl (by decide +kernel) ⟨Nat.le_of_ble_eq_true rfl, Nat.le_of_ble_eq_true rfl⟩) ⟨fun a U g mk q => by obtain ⟨q0, q1, qP, qK, qD⟩ := q; exact ⟨q0, q1, qP, va_K.moved (u := U) (U := U.calling g mk a) (Vm.Alike.refl U.vm) qK, qD⟩, fun U hU hW => ⟨rfl, by rw [hU], by rw [hU]; exact hPc, va_K.moved hW.alike hKc, hDc.weaken (fun _ _ _ _ => trivial)⟩⟩ rfl rfl hl.1 rfl (lv_room (Nat.le_of_ble_eq_true rfl)) dJxc12de_init_da8c8_1 ⟨Nat.le_of_ble_eq_true rfl, Nat.le_of_ble_eq_true rfl⟩) hS (fun q _ h => hFc q h) hFc (fun u t_ H1 locs ht hvm hw hB hz1 hk1 hS => ?_)
  obtain ⟨hP1, hK1, hD1⟩ := hB
  rw [ht] at hP1
  have hK1 := va_K.moved hvm.symm hK1
  obtain ⟨hP, hD⟩ := va_join (wr := [(h0, .inr (0, [.int 0, w1, .int s1]))]) (w1 := []) hP hD [] [0] rfl rfl (by decide) (by decide) hk1 hFc hP1 hD1
  have hK := (hK.sub (tys' := []) [] rfl).app hK1
  generalize H1 = H at hP hS ⊢
  have hP : va_P (dC, dI) vwCl [(h0, .inr (0, [.int 0, w1, .int s1]))] H := hP
  have hD : va_D A [(h0, .inr (0, [.int 0, w1, .int s1]))] := hD
  have hK : va_K (dC, dI) vwCl [(cB, .byte), (cI, .int), (cJ, .long), (cZ, .boolean), (cS, .object "StreamQueries$Source"), (cO, .object "java/lang/Object")] s := hK
  refine lv_aload_n hx hb dJxc12de_init_da8c8_4 rfl (lv_at hl 0 rfl) ?_
  refine lv_iconst (v := 0) hx hb dJxc12de_init_da8c8_5 (by decide) ?_
  refine va_put (D := (dC, dI)) (ci := 0) (v := .int 0) (ty := .int) (C := RJx4a65c) (T := TJx4a65c) (N := 3) hx hb hts (fun w h => List.mem_cons_of_mem _ (uG_Jx4a65c w h)) tyJx4a65c tyJx4a65c_ok nmJx4a65c hown hK hP hD hS 0 rfl rfl 0 (by decide) (hts _ (List.mem_cons_of_mem _ kw_756)) (fun _ h9 => h9) rfl (by decide +kernel) rfl rfl (Nat.le_of_ble_eq_true rfl) dJxc12de_init_da8c8_6 (fun H locs hP hD hS => ?_)
  have hP : va_P (dC, dI) vwCl [(h0, .inr (0, [.int 0, w1, .int s1]))] H := hP
  have hD : va_D A [(h0, .inr (0, [.int 0, w1, .int s1]))] := hD
  have hP9 := hP.sub (ws' := [(h0, .inr (0, [.int 0, w1, .int s1]))]) [0] rfl
  have hD9 := hD.sub (ws' := [(h0, .inr (0, [.int 0, w1, .int s1]))]) [0] (by decide) rfl
  have hK9 := hK.sub (tys' := [(cB, .byte), (cI, .int), (cJ, .long), (cZ, .boolean), (cS, .object "StreamQueries$Source"), (cO, .object "java/lang/Object")]) [0, 1, 2, 3, 4, 5] rfl
  exact W.vret hx hb hr (fun t_ ht hW => ⟨⟨(), rfl, trivial, by rw [ht]; exact hP9, va_K.moved hW.alike hK9, hD9⟩, hS.F ht⟩) hS.2.2 dJxc12de_init_da8c8_9
theorem dJx4a65c_init_da8c8_0 : decode cJx4a65c_init_da8c8 0 = .ok (.aload_n 0, 1) := by decide +kernel
theorem dJx4a65c_init_da8c8_1 : decode cJx4a65c_init_da8c8 1 = .ok (.invokespecial 1, 3) := by decide +kernel
theorem dJx4a65c_init_da8c8_4 : decode cJx4a65c_init_da8c8 4 = .ok (.aload_n 0, 1) := by decide +kernel
theorem dJx4a65c_init_da8c8_5 : decode cJx4a65c_init_da8c8 5 = .ok (.getstatic 39, 3) := by decide +kernel
theorem dJx4a65c_init_da8c8_8 : decode cJx4a65c_init_da8c8 8 = .ok (.putfield 9, 3) := by decide +kernel
theorem dJx4a65c_init_da8c8_11 : decode cJx4a65c_init_da8c8 11 = .ok (.return_, 1) := by decide +kernel
abbrev cs_t_AL_init (cB cI cJ cZ cS cO : ClassId) (h0 : Nat) (K V : Nat → Nat) (fz : Value) : va_W := [(h0, .inr (0, [.int 0, .null, .int 0]))]
abbrev pc_t_AL_init (dC : Nat → ClassId) (dI : Nat → Nat → Nat) (sz : Nat) (cB cI cJ cZ cS cO : ClassId) (h0 : Nat) (K V : Nat → Nat) (fz : Value) : Array Value → State → Prop := va_Pc [.ref h0] (fun U => U.heap.size = sz ∧ va_P (dC, dI) vwCl [(h0, .inr (0, [.int 0, .null, .int 0]))] U.heap ∧ va_K (dC, dI) vwCl [(cB, .byte), (cI, .int), (cJ, .long), (cZ, .boolean), (cS, .object "StreamQueries$Source"), (cO, .object "java/lang/Object")] U ∧ va_D (fun _ => True) [(h0, .inr (0, [.int 0, .null, .int 0]))] ∧ zE K V fz (va_A (cs_t_AL_init cB cI cJ cZ cS cO h0 K V fz) sz) U)
abbrev qc_t_AL_init (dC : Nat → ClassId) (dI : Nat → Nat → Nat) (cB cI cJ cZ cS cO : ClassId) (h0 : Nat) (K V : Nat → Nat) (fz : Value) (A : Nat → Prop) : Array Value → State → Outcome → State → Prop := va_Qv (fun (u : Unit) => match u with | _ => True) (fun (u : Unit) t_ => match u with | _ => va_P (dC, dI) vwCl [(h0, .inr (0, [.int 0, .ref (V 42), .int 0]))] t_.heap ∧ va_K (dC, dI) vwCl [(cB, .byte), (cI, .int), (cJ, .long), (cZ, .boolean), (cS, .object "StreamQueries$Source"), (cO, .object "java/lang/Object")] t_ ∧ va_D A [(h0, .inr (0, [.int 0, .ref (V 42), .int 0]))]) A
set_option maxHeartbeats 4000000 in
set_option maxRecDepth 100000 in
theorem t_AL_init (l : Launch) (dC : Nat → ClassId) (dI : Nat → Nat → Nat) (sz : Nat) (cB cI cJ cZ cS cO : ClassId) (h0 : Nat) (K V : Nat → Nat) (fz : Value)  : Met l yJx4a65c_init_da8c8 (wsOf yJx4a65c_init_da8c8 cJx4a65c_init_da8c8 1 none) ({ frames := 3, cells := 0, slots := 0, locals := 180 }) (pc_t_AL_init dC dI sz cB cI cJ cZ cS cO h0 K V fz) (qc_t_AL_init dC dI cB cI cJ cZ cS cO h0 K V fz (va_A (cs_t_AL_init cB cI cJ cZ cS cO h0 K V fz) sz)) 0 0 (va_A (cs_t_AL_init cB cI cJ cZ cS cO h0 K V fz) sz) := by
  refine Met.ofW (cc := cJx4a65c_init_da8c8) (maxL := 1) (ret := none) (by decide) rfl ?_
  intro p e s m args below meth c s₁ B hml hv
  obtain ⟨rfl, hsz, hP, hK, hD0, hZ⟩ := hv
  have hx := B.exec
  have hb := B.bytes
  have hr := B.returns
  have hts := atoms_spec (ws := (wsOf yJx4a65c_init_da8c8 cJx4a65c_init_da8c8 1 none)) B.pre
  have hown : s.vm.findClass RJx4a65c = some m.cls := findClass_of_methodNamed B.named
  have hlocks := B.notSynchronized
  have hin : meth.name = "<init>" := (name_of_methodNamed B.named B.method).1
  subst hsz
  have hD := hD0.self (sz := s.heap.size)
  generalize hAe : va_A (cs_t_AL_init cB cI cJ cZ cS cO h0 K V fz) s.heap.size = A at hD hZ ⊢
  have hA : ∀ q : Nat, s.heap.size ≤ q → A q := fun q h => by rw [← hAe]; exact Or.inr h
  have hS : va_S A s.heap s.heap [] := va_S.rf
  have hP : va_P (dC, dI) vwCl [(h0, .inr (0, [.int 0, .null, .int 0]))] s.heap := hP
  have hl := lv_entry ([.ref h0]) (n := 1) (Nat.le_of_ble_eq_true rfl)
  rw [lg_entry_eq]
  generalize (lg_sl ([.ref h0]) ++ List.replicate (1 - (lg_sl ([.ref h0])).length) Slot.unset).toArray = ls at hl ⊢
  have hl : lv_has ls 1 [(0, .ref h0)] := hl
  refine lv_aload_n hx hb dJx4a65c_init_da8c8_0 rfl (lv_at hl 0 rfl) ?_
  have hPc := hP.sub (ws' := [(h0, .inr (0, [.int 0, .null, .int 0]))]) [0] rfl
  have hDc := hD.sub (ws' := [(h0, .inr (0, [.int 0, .null, .int 0]))]) [0] (by decide) rfl
  have hKc := hK.sub (tys' := [(cB, .byte), (cI, .int), (cJ, .long), (cZ, .boolean), (cS, .object "StreamQueries$Source"), (cO, .object "java/lang/Object")]) [0, 1, 2, 3, 4, 5] rfl
  have hFc := va_free (wc := [(h0, .inr (0, [.int 0, .null, .int 0]))]) hD hS hA [0] rfl
  refine va_callv (va_runI (As := []) (rest := []) ⟨hx, hb, hml, hown, hts⟩ (t_AL0_init l dC dI s.heap.size cB cI cJ cZ cS cO h0 .null 0) (cwI 0 hts (gd_all (in_I kc_Jxc12de_init_da8c8)) rfl rfl rfl (hts _ (List.mem_cons_of_mem _ kw_198)) (hts _ (List.mem_cons_of_mem _ kw_745)) (hts _ (List.mem_cons_of_mem _ kw_746)) rfl (by decide +kernel) ⟨Nat.le_of_ble_eq_true rfl, Nat.le_of_ble_eq_true rfl⟩) ⟨fun a U g mk q => by obtain ⟨q0, q1, qP, qK, qD⟩ := q; exact ⟨q0, q1, qP, va_K.moved (u := U) (U := U.calling g mk a) (Vm.Alike.refl U.vm) qK, qD⟩, fun U hU hW => ⟨rfl, by rw [hU], by rw [hU]; exact hPc, va_K.moved hW.alike hKc, hDc.weaken (fun _ _ _ _ => trivial)⟩⟩ rfl rfl hl.1 rfl (lv_room (Nat.le_of_ble_eq_true rfl)) dJx4a65c_init_da8c8_1 ⟨Nat.le_of_ble_eq_true rfl, Nat.le_of_ble_eq_true rfl⟩) hS (fun q _ h => hFc q h) hFc (fun u t_ H1 locs ht hvm hw hB hz1 hk1 hS => ?_)
  obtain ⟨hP1, hK1, hD1⟩ := hB
  rw [ht] at hP1
  have hK1 := va_K.moved hvm.symm hK1
  obtain ⟨hP, hD⟩ := va_join (wr := []) (w1 := [(h0, .inr (0, [.int 0, .null, .int 0]))]) hP hD [0] [] rfl rfl (by decide) (by decide) hk1 hFc hP1 hD1
  have hK := (hK.sub (tys' := []) [] rfl).app hK1
  generalize H1 = H at hP hS ⊢
  have hP : va_P (dC, dI) vwCl [(h0, .inr (0, [.int 0, .null, .int 0]))] H := hP
  have hD : va_D A [(h0, .inr (0, [.int 0, .null, .int 0]))] := hD
  have hK : va_K (dC, dI) vwCl [(cB, .byte), (cI, .int), (cJ, .long), (cZ, .boolean), (cS, .object "StreamQueries$Source"), (cO, .object "java/lang/Object")] s := hK
  refine lv_aload_n hx hb dJx4a65c_init_da8c8_4 rfl (lv_at hl 0 rfl) ?_
  refine va_gets hx hb hZ.dz hS hown (hts _ (List.mem_cons_of_mem _ kw_752)) (fun _ h9 => h9) dJx4a65c_init_da8c8_5 ?_
  refine va_put (D := (dC, dI)) (ci := 0) (v := .ref (V 42)) (ty := .array (.object "java/lang/Object")) (C := RJx4a65c) (T := TJx4a65c) (N := 3) hx hb hts (fun w h => List.mem_cons_of_mem _ (uG_Jx4a65c w h)) tyJx4a65c tyJx4a65c_ok nmJx4a65c hown hK hP hD hS 0 rfl rfl 1 (by decide) (hts _ (List.mem_cons_of_mem _ kw_754)) (fun _ h9 => h9) rfl (by decide +kernel) rfl rfl (Nat.le_of_ble_eq_true rfl) dJx4a65c_init_da8c8_8 (fun H locs hP hD hS => ?_)
  have hP : va_P (dC, dI) vwCl [(h0, .inr (0, [.int 0, .ref (V 42), .int 0]))] H := hP
  have hD : va_D A [(h0, .inr (0, [.int 0, .ref (V 42), .int 0]))] := hD
  have hP9 := hP.sub (ws' := [(h0, .inr (0, [.int 0, .ref (V 42), .int 0]))]) [0] rfl
  have hD9 := hD.sub (ws' := [(h0, .inr (0, [.int 0, .ref (V 42), .int 0]))]) [0] (by decide) rfl
  have hK9 := hK.sub (tys' := [(cB, .byte), (cI, .int), (cJ, .long), (cZ, .boolean), (cS, .object "StreamQueries$Source"), (cO, .object "java/lang/Object")]) [0, 1, 2, 3, 4, 5] rfl
  exact W.vret hx hb hr (fun t_ ht hW => ⟨⟨(), rfl, trivial, by rw [ht]; exact hP9, va_K.moved hW.alike hK9, hD9⟩, hS.F ht⟩) hS.2.2 dJx4a65c_init_da8c8_11
theorem dJx4a65c_grow_92f84_0 : decode cJx4a65c_grow_92f84 0 = .ok (.aload_n 0, 1) := by decide +kernel
theorem dJx4a65c_grow_92f84_1 : decode cJx4a65c_grow_92f84 1 = .ok (.getfield 9, 3) := by decide +kernel
theorem dJx4a65c_grow_92f84_4 : decode cJx4a65c_grow_92f84 4 = .ok (.arraylength, 1) := by decide +kernel
theorem dJx4a65c_grow_92f84_5 : decode cJx4a65c_grow_92f84 5 = .ok (.istore_n 2, 1) := by decide +kernel
theorem dJx4a65c_grow_92f84_6 : decode cJx4a65c_grow_92f84 6 = .ok (.iload_n 2, 1) := by decide +kernel
theorem dJx4a65c_grow_92f84_7 : decode cJx4a65c_grow_92f84 7 = .ok (.ifCond .gt 13, 3) := by decide +kernel
theorem dJx4a65c_grow_92f84_10 : decode cJx4a65c_grow_92f84 10 = .ok (.aload_n 0, 1) := by decide +kernel
theorem dJx4a65c_grow_92f84_11 : decode cJx4a65c_grow_92f84 11 = .ok (.getfield 9, 3) := by decide +kernel
theorem dJx4a65c_grow_92f84_14 : decode cJx4a65c_grow_92f84 14 = .ok (.getstatic 39, 3) := by decide +kernel
theorem dJx4a65c_grow_92f84_17 : decode cJx4a65c_grow_92f84 17 = .ok (.if_acmp .eq 28, 3) := by decide +kernel
theorem dJx4a65c_grow_92f84_45 : decode cJx4a65c_grow_92f84 45 = .ok (.aload_n 0, 1) := by decide +kernel
theorem dJx4a65c_grow_92f84_46 : decode cJx4a65c_grow_92f84 46 = .ok (.bipush 10, 2) := by decide +kernel
theorem dJx4a65c_grow_92f84_48 : decode cJx4a65c_grow_92f84 48 = .ok (.iload_n 1, 1) := by decide +kernel
theorem dJx4a65c_grow_92f84_49 : decode cJx4a65c_grow_92f84 49 = .ok (.invokestatic 79, 3) := by decide +kernel
theorem dJx4a65c_grow_92f84_52 : decode cJx4a65c_grow_92f84 52 = .ok (.anewarray 7, 3) := by decide +kernel
theorem dJx4a65c_grow_92f84_55 : decode cJx4a65c_grow_92f84 55 = .ok (.dup_x1, 1) := by decide +kernel
theorem dJx4a65c_grow_92f84_56 : decode cJx4a65c_grow_92f84 56 = .ok (.putfield 9, 3) := by decide +kernel
theorem dJx4a65c_grow_92f84_59 : decode cJx4a65c_grow_92f84 59 = .ok (.areturn, 1) := by decide +kernel
abbrev cs_t_AL_grow (cB cI cJ cZ cS cO : ClassId) (h0 : Nat) (m1 : Int32) (K V : Nat → Nat) (fz : Value) : va_W := [(h0, .inr (0, [.int m1, .ref (V 42), .int 0]))]
abbrev pc_t_AL_grow (dC : Nat → ClassId) (dI : Nat → Nat → Nat) (sz : Nat) (cB cI cJ cZ cS cO : ClassId) (h0 : Nat) (m1 : Int32) (K V : Nat → Nat) (fz : Value) : Array Value → State → Prop := va_Pc [.ref h0, .int 1] (fun U => U.heap.size = sz ∧ va_P (dC, dI) vwCl [(h0, .inr (0, [.int m1, .ref (V 42), .int 0]))] U.heap ∧ va_K (dC, dI) vwCl [(cB, .byte), (cI, .int), (cJ, .long), (cZ, .boolean), (cS, .object "StreamQueries$Source"), (cO, .object "java/lang/Object")] U ∧ va_D (fun _ => True) [(h0, .inr (0, [.int m1, .ref (V 42), .int 0]))] ∧ zE K V fz (va_A (cs_t_AL_grow cB cI cJ cZ cS cO h0 m1 K V fz) sz) U)
abbrev qc_t_AL_grow (dC : Nat → ClassId) (dI : Nat → Nat → Nat) (cB cI cJ cZ cS cO : ClassId) (h0 : Nat) (m1 : Int32) (K V : Nat → Nat) (fz : Value) (A : Nat → Prop) : Array Value → State → Outcome → State → Prop := va_Qr (fun (u : Unit) => match u with | _ => True) (fun (u : Unit) (ra : Nat) t_ => match u with | _ => va_P (dC, dI) vwCl [(h0, .inr (0, [.int m1, .ref ra, .int 0])), (ra, .inl (cO, 10, .inr (.inr (.inr (.inr (fun _ => none))))))] t_.heap ∧ va_K (dC, dI) vwCl [(cB, .byte), (cI, .int), (cJ, .long), (cZ, .boolean), (cS, .object "StreamQueries$Source"), (cO, .object "java/lang/Object")] t_ ∧ va_D A [(h0, .inr (0, [.int m1, .ref ra, .int 0])), (ra, .inl (cO, 10, .inr (.inr (.inr (.inr (fun _ => none))))))]) A
set_option maxHeartbeats 4000000 in
set_option maxRecDepth 100000 in
theorem t_AL_grow (l : Launch) (dC : Nat → ClassId) (dI : Nat → Nat → Nat) (sz : Nat) (cB cI cJ cZ cS cO : ClassId) (h0 : Nat) (m1 : Int32) (K V : Nat → Nat) (fz : Value)  : Met l yJx4a65c_grow_92f84 (wsOf yJx4a65c_grow_92f84 cJx4a65c_grow_92f84 4 (some (.array (.object "java/lang/Object")))) ({ frames := 2, cells := 1, slots := 10, locals := 120 }) (pc_t_AL_grow dC dI sz cB cI cJ cZ cS cO h0 m1 K V fz) (qc_t_AL_grow dC dI cB cI cJ cZ cS cO h0 m1 K V fz (va_A (cs_t_AL_grow cB cI cJ cZ cS cO h0 m1 K V fz) sz)) 1 10 (va_A (cs_t_AL_grow cB cI cJ cZ cS cO h0 m1 K V fz) sz) := by
  refine Met.ofW (cc := cJx4a65c_grow_92f84) (maxL := 4) (ret := (some (.array (.object "java/lang/Object")))) (by decide) rfl ?_
  intro p e s m args below meth c s₁ B hml hv
  obtain ⟨rfl, hsz, hP, hK, hD0, hZ⟩ := hv
  have hx := B.exec
  have hb := B.bytes
  have hr := B.returns
  have hts := atoms_spec (ws := (wsOf yJx4a65c_grow_92f84 cJx4a65c_grow_92f84 4 (some (.array (.object "java/lang/Object"))))) B.pre
  have hown : s.vm.findClass RJx4a65c = some m.cls := findClass_of_methodNamed B.named
  have hlocks := B.notSynchronized
  subst hsz
  have hD := hD0.self (sz := s.heap.size)
  generalize hAe : va_A (cs_t_AL_grow cB cI cJ cZ cS cO h0 m1 K V fz) s.heap.size = A at hD hZ ⊢
  have hA : ∀ q : Nat, s.heap.size ≤ q → A q := fun q h => by rw [← hAe]; exact Or.inr h
  have hS : va_S A s.heap s.heap [] := va_S.rf
  have hP : va_P (dC, dI) vwCl [(h0, .inr (0, [.int m1, .ref (V 42), .int 0]))] s.heap := hP
  have hl := lv_entry ([.ref h0, .int 1]) (n := 4) (Nat.le_of_ble_eq_true rfl)
  rw [lg_entry_eq]
  generalize (lg_sl ([.ref h0, .int 1]) ++ List.replicate (4 - (lg_sl ([.ref h0, .int 1])).length) Slot.unset).toArray = ls at hl ⊢
  have hl : lv_has ls 4 [(0, .ref h0), (1, .int 1)] := hl
  refine lv_aload_n hx hb dJx4a65c_grow_92f84_0 rfl (lv_at hl 0 rfl) ?_
  refine va_get (D := (dC, dI)) (ci := 0) (v := .ref (V 42)) (C := RJx4a65c) (T := TJx4a65c) (N := 3) hx hb hts (fun w h => List.mem_cons_of_mem _ (uG_Jx4a65c w h)) hown hK hP 0 rfl rfl 1 (by decide) (hts _ (List.mem_cons_of_mem _ kw_754)) (fun _ h9 => h9) rfl dJx4a65c_grow_92f84_1 ?_
  refine va_tlen hx hb hZ.dt hS (v := 0) rfl dJx4a65c_grow_92f84_4 ?_
  refine lv_istore_n (lv' := [(2, .int 0), (0, .ref h0), (1, .int 1)]) hx hb dJx4a65c_grow_92f84_5 rfl hl (by decide) rfl (fun ls hl => ?_)
  refine lv_iload_n hx hb dJx4a65c_grow_92f84_6 rfl (lv_at hl 0 rfl) ?_
  refine lv_if_gt (tgt := 20) hx hb dJx4a65c_grow_92f84_7 (by decide) (fun c_1 => ?_) (fun c_1 => ?_)
  · skip
    exact absurd c_1 (by decide)
  · skip
    refine lv_aload_n hx hb dJx4a65c_grow_92f84_10 rfl (lv_at hl 1 rfl) ?_
    refine va_get (D := (dC, dI)) (ci := 0) (v := .ref (V 42)) (C := RJx4a65c) (T := TJx4a65c) (N := 3) hx hb hts (fun w h => List.mem_cons_of_mem _ (uG_Jx4a65c w h)) hown hK hP 0 rfl rfl 1 (by decide) (hts _ (List.mem_cons_of_mem _ kw_754)) (fun _ h9 => h9) rfl dJx4a65c_grow_92f84_11 ?_
    refine va_gets hx hb hZ.dz hS hown (hts _ (List.mem_cons_of_mem _ kw_752)) (fun _ h9 => h9) dJx4a65c_grow_92f84_14 ?_
    refine lv_acmp_eq (rx := some (V 42)) (ry := some (V 42)) (tgt := 45) hx hb dJx4a65c_grow_92f84_17 (by decide) (fun c_2 => ?_) (fun c_2 => ?_)
    rotate_left
    · exact absurd rfl c_2
    refine lv_aload_n hx hb dJx4a65c_grow_92f84_45 rfl (lv_at hl 1 rfl) ?_
    refine lv_bipush (v := 10) hx hb dJx4a65c_grow_92f84_46 (by decide) ?_
    refine lv_iload_n hx hb dJx4a65c_grow_92f84_48 rfl (lv_at hl 2 rfl) ?_
    refine va_mmax hx hb (hml.trans hl.1.symm) hown (hts _ (List.mem_cons_of_mem _ kw_821)) (hts _ (List.mem_cons_of_mem _ kw_369)) (hts _ (List.mem_cons_of_mem _ kw_190)) (hts _ (List.mem_cons_of_mem _ kc_max)) (Nat.le_of_ble_eq_true rfl) (Nat.le_of_ble_eq_true rfl) (Nat.le_of_ble_eq_true rfl) (Nat.le_of_ble_eq_true rfl) dJx4a65c_grow_92f84_49 ?_
    refine lv_topi (fun x_3 ex_3 => ?_)
    have ex_3 : x_3 = 10 := by exact ex_3.trans (by decide)
    subst ex_3
    refine va_newq (C := "java/lang/Object") hx hb hown (hts _ (List.mem_cons_of_mem _ kw_822)) hZ.aoO hK hP hD hS hA (n := 10) (N' := 10) (by decide) (by decide) (by decide) (Nat.le_of_ble_eq_true rfl) (Nat.le_of_ble_eq_true rfl) dJx4a65c_grow_92f84_52 (fun q4 cA4 H hK4 hP hD hS => ?_)
    rw [va_sameO hK4 6 5 rfl rfl] at hP hD
    have hP : va_P (dC, dI) vwCl [(h0, .inr (0, [.int m1, .ref (V 42), .int 0])), (q4, .inl (cO, 10, .inr (.inr (.inr (.inr (fun _ => none))))))] H := hP
    have hD : va_D A [(h0, .inr (0, [.int m1, .ref (V 42), .int 0])), (q4, .inl (cO, 10, .inr (.inr (.inr (.inr (fun _ => none))))))] := hD
    refine W.widen (k := 1) (n := 10) (Nat.le_of_ble_eq_true rfl) (Nat.le_of_ble_eq_true rfl) ?_
    refine lv_dup_x1 hx hb dJx4a65c_grow_92f84_55 rfl rfl ?_
    refine va_put (D := (dC, dI)) (ci := 0) (v := .ref q4) (ty := .array (.object "java/lang/Object")) (C := RJx4a65c) (T := TJx4a65c) (N := 3) hx hb hts (fun w h => List.mem_cons_of_mem _ (uG_Jx4a65c w h)) tyJx4a65c tyJx4a65c_ok nmJx4a65c hown hK hP hD hS 0 rfl rfl 1 (by decide) (hts _ (List.mem_cons_of_mem _ kw_754)) (fun _ h9 => h9) rfl (by decide +kernel) rfl rfl (Nat.le_of_ble_eq_true rfl) dJx4a65c_grow_92f84_56 (fun H locs hP hD hS => ?_)
    have hP : va_P (dC, dI) vwCl [(h0, .inr (0, [.int m1, .ref q4, .int 0])), (q4, .inl (cO, 10, .inr (.inr (.inr (.inr (fun _ => none))))))] H := hP
    have hD : va_D A [(h0, .inr (0, [.int m1, .ref q4, .int 0])), (q4, .inl (cO, 10, .inr (.inr (.inr (.inr (fun _ => none))))))] := hD
    have hP9 := hP.sub (ws' := [(h0, .inr (0, [.int m1, .ref q4, .int 0])), (q4, .inl (cO, 10, .inr (.inr (.inr (.inr (fun _ => none))))))]) [0, 1] rfl
    have hD9 := hD.sub (ws' := [(h0, .inr (0, [.int m1, .ref q4, .int 0])), (q4, .inl (cO, 10, .inr (.inr (.inr (.inr (fun _ => none))))))]) [0, 1] (by decide) rfl
    have hK9 := hK.sub (tys' := [(cB, .byte), (cI, .int), (cJ, .long), (cZ, .boolean), (cS, .object "StreamQueries$Source"), (cO, .object "java/lang/Object")]) [0, 1, 2, 3, 4, 5] rfl
    refine W.widen (k := 1) (n := 10) (Nat.le_of_ble_eq_true rfl) (Nat.le_of_ble_eq_true rfl) ?_
    exact W.aret (v := .ref q4) hx hb hr (Or.inr ⟨_, rfl⟩) (Or.inr ⟨_, rfl⟩) (fun t_ ht hW => ⟨⟨(), q4, rfl, trivial, by rw [ht]; exact hP9, va_K.moved hW.alike hK9, hD9⟩, hS.F ht⟩) hS.2.2 dJx4a65c_grow_92f84_59
theorem dJx4a65c_grow_d5877_0 : decode cJx4a65c_grow_d5877 0 = .ok (.aload_n 0, 1) := by decide +kernel
theorem dJx4a65c_grow_d5877_1 : decode cJx4a65c_grow_d5877 1 = .ok (.aload_n 0, 1) := by decide +kernel
theorem dJx4a65c_grow_d5877_2 : decode cJx4a65c_grow_d5877 2 = .ok (.getfield 48, 3) := by decide +kernel
theorem dJx4a65c_grow_d5877_5 : decode cJx4a65c_grow_d5877 5 = .ok (.iconst 1, 1) := by decide +kernel
theorem dJx4a65c_grow_d5877_6 : decode cJx4a65c_grow_d5877 6 = .ok (.iadd, 1) := by decide +kernel
theorem dJx4a65c_grow_d5877_7 : decode cJx4a65c_grow_d5877 7 = .ok (.invokevirtual 69, 3) := by decide +kernel
theorem dJx4a65c_grow_d5877_10 : decode cJx4a65c_grow_d5877 10 = .ok (.areturn, 1) := by decide +kernel
abbrev cs_t_AL_grow0 (cB cI cJ cZ cS cO : ClassId) (h0 : Nat) (m1 : Int32) (K V : Nat → Nat) (fz : Value) : va_W := [(h0, .inr (0, [.int m1, .ref (V 42), .int 0]))]
abbrev pc_t_AL_grow0 (dC : Nat → ClassId) (dI : Nat → Nat → Nat) (sz : Nat) (cB cI cJ cZ cS cO : ClassId) (h0 : Nat) (m1 : Int32) (K V : Nat → Nat) (fz : Value) : Array Value → State → Prop := va_Pc [.ref h0] (fun U => U.heap.size = sz ∧ va_P (dC, dI) vwCl [(h0, .inr (0, [.int m1, .ref (V 42), .int 0]))] U.heap ∧ va_K (dC, dI) vwCl [(cB, .byte), (cI, .int), (cJ, .long), (cZ, .boolean), (cS, .object "StreamQueries$Source"), (cO, .object "java/lang/Object")] U ∧ va_D (fun _ => True) [(h0, .inr (0, [.int m1, .ref (V 42), .int 0]))] ∧ zE K V fz (va_A (cs_t_AL_grow0 cB cI cJ cZ cS cO h0 m1 K V fz) sz) U)
abbrev qc_t_AL_grow0 (dC : Nat → ClassId) (dI : Nat → Nat → Nat) (cB cI cJ cZ cS cO : ClassId) (h0 : Nat) (m1 : Int32) (K V : Nat → Nat) (fz : Value) (A : Nat → Prop) : Array Value → State → Outcome → State → Prop := va_Qr (fun (u : Unit) => match u with | _ => True) (fun (u : Unit) (ra : Nat) t_ => match u with | _ => va_P (dC, dI) vwCl [(h0, .inr (0, [.int m1, .ref ra, .int 0])), (ra, .inl (cO, 10, .inr (.inr (.inr (.inr (fun _ => none))))))] t_.heap ∧ va_K (dC, dI) vwCl [(cB, .byte), (cI, .int), (cJ, .long), (cZ, .boolean), (cS, .object "StreamQueries$Source"), (cO, .object "java/lang/Object")] t_ ∧ va_D A [(h0, .inr (0, [.int m1, .ref ra, .int 0])), (ra, .inl (cO, 10, .inr (.inr (.inr (.inr (fun _ => none))))))]) A
set_option maxHeartbeats 4000000 in
set_option maxRecDepth 100000 in
theorem t_AL_grow0 (l : Launch) (dC : Nat → ClassId) (dI : Nat → Nat → Nat) (sz : Nat) (cB cI cJ cZ cS cO : ClassId) (h0 : Nat) (m1 : Int32) (K V : Nat → Nat) (fz : Value)  : Met l yJx4a65c_grow_d5877 (wsOf yJx4a65c_grow_d5877 cJx4a65c_grow_d5877 1 (some (.array (.object "java/lang/Object")))) ({ frames := 3, cells := 1, slots := 10, locals := 180 }) (pc_t_AL_grow0 dC dI sz cB cI cJ cZ cS cO h0 m1 K V fz) (qc_t_AL_grow0 dC dI cB cI cJ cZ cS cO h0 m1 K V fz (va_A (cs_t_AL_grow0 cB cI cJ cZ cS cO h0 m1 K V fz) sz)) 1 10 (va_A (cs_t_AL_grow0 cB cI cJ cZ cS cO h0 m1 K V fz) sz) := by
  refine Met.ofW (cc := cJx4a65c_grow_d5877) (maxL := 1) (ret := (some (.array (.object "java/lang/Object")))) (by decide) rfl ?_
  intro p e s m args below meth c s₁ B hml hv
  obtain ⟨rfl, hsz, hP, hK, hD0, hZ⟩ := hv
  have hx := B.exec
  have hb := B.bytes
  have hr := B.returns
  have hts := atoms_spec (ws := (wsOf yJx4a65c_grow_d5877 cJx4a65c_grow_d5877 1 (some (.array (.object "java/lang/Object"))))) B.pre
  have hown : s.vm.findClass RJx4a65c = some m.cls := findClass_of_methodNamed B.named
  have hlocks := B.notSynchronized
  subst hsz
  have hD := hD0.self (sz := s.heap.size)
  generalize hAe : va_A (cs_t_AL_grow0 cB cI cJ cZ cS cO h0 m1 K V fz) s.heap.size = A at hD hZ ⊢
  have hA : ∀ q : Nat, s.heap.size ≤ q → A q := fun q h => by rw [← hAe]; exact Or.inr h
  have hS : va_S A s.heap s.heap [] := va_S.rf
  have hP : va_P (dC, dI) vwCl [(h0, .inr (0, [.int m1, .ref (V 42), .int 0]))] s.heap := hP
  have hl := lv_entry ([.ref h0]) (n := 1) (Nat.le_of_ble_eq_true rfl)
  rw [lg_entry_eq]
  generalize (lg_sl ([.ref h0]) ++ List.replicate (1 - (lg_sl ([.ref h0])).length) Slot.unset).toArray = ls at hl ⊢
  have hl : lv_has ls 1 [(0, .ref h0)] := hl
  refine lv_aload_n hx hb dJx4a65c_grow_d5877_0 rfl (lv_at hl 0 rfl) ?_
  refine lv_aload_n hx hb dJx4a65c_grow_d5877_1 rfl (lv_at hl 0 rfl) ?_
  refine va_get (D := (dC, dI)) (ci := 0) (v := .int 0) (C := RJx4a65c) (T := TJx4a65c) (N := 3) hx hb hts (fun w h => List.mem_cons_of_mem _ (uG_Jx4a65c w h)) hown hK hP 0 rfl rfl 2 (by decide) (hts _ (List.mem_cons_of_mem _ kw_755)) (fun _ h9 => h9) rfl dJx4a65c_grow_d5877_2 ?_
  refine lv_iconst (v := 1) hx hb dJx4a65c_grow_d5877_5 (by decide) ?_
  refine lv_iadd hx hb dJx4a65c_grow_d5877_6 ?_
  refine lv_topi (fun x_1 ex_1 => ?_)
  have ex_1 : x_1 = 1 := ex_1.trans (by decide)
  subst ex_1
  have hPc := hP.sub (ws' := [(h0, .inr (0, [.int m1, .ref (V 42), .int 0]))]) [0] rfl
  have hDc := hD.sub (ws' := [(h0, .inr (0, [.int m1, .ref (V 42), .int 0]))]) [0] (by decide) rfl
  have hKc := hK.sub (tys' := [(cB, .byte), (cI, .int), (cJ, .long), (cZ, .boolean), (cS, .object "StreamQueries$Source"), (cO, .object "java/lang/Object")]) [0, 1, 2, 3, 4, 5] rfl
  have hFc := va_free (wc := [(h0, .inr (0, [.int m1, .ref (V 42), .int 0]))]) hD hS hA [0] rfl
  refine va_callr (va_runV (As := [.int 1]) (rest := []) ⟨hx, hb, hml, hown, hts⟩ (t_AL_grow l dC dI s.heap.size cB cI cJ cZ cS cO h0 m1 K V fz) (cwV 1 hts (gd_all (in_V kw_778 kw_780 kw_10 kw_199 kc_Jx4a65c_grow_92f84)) rfl rfl rfl (by decide +kernel) ⟨Nat.le_of_ble_eq_true rfl, Nat.le_of_ble_eq_true rfl⟩) ⟨fun a U g mk q => by obtain ⟨q0, q1, qP, qK, qD, qZ⟩ := q; exact ⟨q0, q1, qP, va_K.moved (u := U) (U := U.calling g mk a) (Vm.Alike.refl U.vm) qK, qD, zE.same (u := U) (U := U.calling g mk a) rfl rfl qZ⟩, va_recv hKc hPc (ci := 0) (q0 := 0) rfl rfl, fun U hU hW => ⟨rfl, by rw [hU], by rw [hU]; exact hPc, va_K.moved hW.alike hKc, hDc.weaken (fun _ _ _ _ => trivial), zE.go hZ hS hU hW hFc⟩⟩ rfl rfl hl.1 rfl (lv_room (Nat.le_of_ble_eq_true rfl)) dJx4a65c_grow_d5877_7 ⟨Nat.le_of_ble_eq_true rfl, Nat.le_of_ble_eq_true rfl⟩) hS (fun q _ h => hFc q h) hFc (fun u ra_2 t_ H1 locs ht hvm hw hB hz1 hk1 hS => ?_)
  obtain ⟨hP1, hK1, hD1⟩ := hB
  rw [ht] at hP1
  have hK1 := va_K.moved hvm.symm hK1
  obtain ⟨hP, hD⟩ := va_join (wr := []) (w1 := [(h0, .inr (0, [.int m1, .ref ra_2, .int 0])), (ra_2, .inl (cO, 10, .inr (.inr (.inr (.inr (fun _ => none))))))]) hP hD [0] [] rfl rfl (by decide) (by decide) hk1 hFc hP1 hD1
  have hK := (hK.sub (tys' := []) [] rfl).app hK1
  generalize H1 = H at hP hS ⊢
  have hP : va_P (dC, dI) vwCl [(h0, .inr (0, [.int m1, .ref ra_2, .int 0])), (ra_2, .inl (cO, 10, .inr (.inr (.inr (.inr (fun _ => none))))))] H := hP
  have hD : va_D A [(h0, .inr (0, [.int m1, .ref ra_2, .int 0])), (ra_2, .inl (cO, 10, .inr (.inr (.inr (.inr (fun _ => none))))))] := hD
  have hK : va_K (dC, dI) vwCl [(cB, .byte), (cI, .int), (cJ, .long), (cZ, .boolean), (cS, .object "StreamQueries$Source"), (cO, .object "java/lang/Object")] s := hK
  have hP9 := hP.sub (ws' := [(h0, .inr (0, [.int m1, .ref ra_2, .int 0])), (ra_2, .inl (cO, 10, .inr (.inr (.inr (.inr (fun _ => none))))))]) [0, 1] rfl
  have hD9 := hD.sub (ws' := [(h0, .inr (0, [.int m1, .ref ra_2, .int 0])), (ra_2, .inl (cO, 10, .inr (.inr (.inr (.inr (fun _ => none))))))]) [0, 1] (by decide) rfl
  have hK9 := hK.sub (tys' := [(cB, .byte), (cI, .int), (cJ, .long), (cZ, .boolean), (cS, .object "StreamQueries$Source"), (cO, .object "java/lang/Object")]) [0, 1, 2, 3, 4, 5] rfl
  refine W.widen (k := 1) (n := 10) (Nat.le_of_ble_eq_true rfl) (Nat.le_of_ble_eq_true rfl) ?_
  exact W.aret (v := .ref ra_2) hx hb hr (Or.inr ⟨_, rfl⟩) (Or.inr ⟨_, rfl⟩) (fun t_ ht hW => ⟨⟨(), ra_2, rfl, trivial, by rw [ht]; exact hP9, va_K.moved hW.alike hK9, hD9⟩, hS.F ht⟩) hS.2.2 dJx4a65c_grow_d5877_10
theorem dJx4a65c_add_72be8_0 : decode cJx4a65c_add_72be8 0 = .ok (.iload_n 3, 1) := by decide +kernel
theorem dJx4a65c_add_72be8_1 : decode cJx4a65c_add_72be8 1 = .ok (.aload_n 2, 1) := by decide +kernel
theorem dJx4a65c_add_72be8_2 : decode cJx4a65c_add_72be8 2 = .ok (.arraylength, 1) := by decide +kernel
theorem dJx4a65c_add_72be8_3 : decode cJx4a65c_add_72be8 3 = .ok (.if_icmp .ne 8, 3) := by decide +kernel
theorem dJx4a65c_add_72be8_6 : decode cJx4a65c_add_72be8 6 = .ok (.aload_n 0, 1) := by decide +kernel
theorem dJx4a65c_add_72be8_7 : decode cJx4a65c_add_72be8 7 = .ok (.invokevirtual 129, 3) := by decide +kernel
theorem dJx4a65c_add_72be8_10 : decode cJx4a65c_add_72be8 10 = .ok (.astore_n 2, 1) := by decide +kernel
theorem dJx4a65c_add_72be8_11 : decode cJx4a65c_add_72be8 11 = .ok (.aload_n 2, 1) := by decide +kernel
theorem dJx4a65c_add_72be8_12 : decode cJx4a65c_add_72be8 12 = .ok (.iload_n 3, 1) := by decide +kernel
theorem dJx4a65c_add_72be8_13 : decode cJx4a65c_add_72be8 13 = .ok (.aload_n 1, 1) := by decide +kernel
theorem dJx4a65c_add_72be8_14 : decode cJx4a65c_add_72be8 14 = .ok (.aastore, 1) := by decide +kernel
theorem dJx4a65c_add_72be8_15 : decode cJx4a65c_add_72be8 15 = .ok (.aload_n 0, 1) := by decide +kernel
theorem dJx4a65c_add_72be8_16 : decode cJx4a65c_add_72be8 16 = .ok (.iload_n 3, 1) := by decide +kernel
theorem dJx4a65c_add_72be8_17 : decode cJx4a65c_add_72be8 17 = .ok (.iconst 1, 1) := by decide +kernel
theorem dJx4a65c_add_72be8_18 : decode cJx4a65c_add_72be8 18 = .ok (.iadd, 1) := by decide +kernel
theorem dJx4a65c_add_72be8_19 : decode cJx4a65c_add_72be8 19 = .ok (.putfield 48, 3) := by decide +kernel
theorem dJx4a65c_add_72be8_22 : decode cJx4a65c_add_72be8 22 = .ok (.return_, 1) := by decide +kernel
abbrev cs_t_AL_add3_0 (cB cI cJ cZ cS cO : ClassId) (h0 : Nat) (m1 : Int32) (h1 : Nat) (vs : List Value) (K V : Nat → Nat) (fz : Value) : va_W := [(h0, .inr (0, [.int m1, .ref (V 42), .int 0])), (h1, .inr (6, vs))]
abbrev pc_t_AL_add3_0 (dC : Nat → ClassId) (dI : Nat → Nat → Nat) (sz : Nat) (cB cI cJ cZ cS cO : ClassId) (h0 : Nat) (m1 : Int32) (h1 : Nat) (vs : List Value) (K V : Nat → Nat) (fz : Value) : Array Value → State → Prop := va_Pc [.ref h0, .ref h1, .ref (V 42), .int 0] (fun U => U.heap.size = sz ∧ va_P (dC, dI) vwCl [(h0, .inr (0, [.int m1, .ref (V 42), .int 0])), (h1, .inr (6, vs))] U.heap ∧ va_K (dC, dI) vwCl [(cB, .byte), (cI, .int), (cJ, .long), (cZ, .boolean), (cS, .object "StreamQueries$Source"), (cO, .object "java/lang/Object")] U ∧ va_D (fun _ => True) [(h0, .inr (0, [.int m1, .ref (V 42), .int 0])), (h1, .inr (6, vs))] ∧ zE K V fz (va_A (cs_t_AL_add3_0 cB cI cJ cZ cS cO h0 m1 h1 vs K V fz) sz) U)
abbrev qc_t_AL_add3_0 (dC : Nat → ClassId) (dI : Nat → Nat → Nat) (cB cI cJ cZ cS cO : ClassId) (h0 : Nat) (m1 : Int32) (h1 : Nat) (vs : List Value) (K V : Nat → Nat) (fz : Value) (A : Nat → Prop) : Array Value → State → Outcome → State → Prop := va_Qv (fun (u : Unit) => match u with | _ => True) (fun (u : Unit) t_ => match u with | _ => ∃ a1 : Nat, va_P (dC, dI) vwCl [(h0, .inr (0, [.int m1, .ref a1, .int 1])), (h1, .inr (6, vs)), (a1, .inl (cO, 10, .inr (.inr (.inr (.inr (va_up (fun _ => none) 0 (some h1)))))))] t_.heap ∧ va_K (dC, dI) vwCl [(cB, .byte), (cI, .int), (cJ, .long), (cZ, .boolean), (cS, .object "StreamQueries$Source"), (cO, .object "java/lang/Object")] t_ ∧ va_D A [(h0, .inr (0, [.int m1, .ref a1, .int 1])), (h1, .inr (6, vs)), (a1, .inl (cO, 10, .inr (.inr (.inr (.inr (va_up (fun _ => none) 0 (some h1)))))))]) A
set_option maxHeartbeats 4000000 in
set_option maxRecDepth 100000 in
theorem t_AL_add3_0 (l : Launch) (dC : Nat → ClassId) (dI : Nat → Nat → Nat) (sz : Nat) (cB cI cJ cZ cS cO : ClassId) (h0 : Nat) (m1 : Int32) (h1 : Nat) (vs : List Value) (K V : Nat → Nat) (fz : Value)  : Met l yJx4a65c_add_72be8 (wsOf yJx4a65c_add_72be8 cJx4a65c_add_72be8 4 none) ({ frames := 4, cells := 1, slots := 10, locals := 240 }) (pc_t_AL_add3_0 dC dI sz cB cI cJ cZ cS cO h0 m1 h1 vs K V fz) (qc_t_AL_add3_0 dC dI cB cI cJ cZ cS cO h0 m1 h1 vs K V fz (va_A (cs_t_AL_add3_0 cB cI cJ cZ cS cO h0 m1 h1 vs K V fz) sz)) 1 10 (va_A (cs_t_AL_add3_0 cB cI cJ cZ cS cO h0 m1 h1 vs K V fz) sz) := by
  refine Met.ofW (cc := cJx4a65c_add_72be8) (maxL := 4) (ret := none) (by decide) rfl ?_
  intro p e s m args below meth c s₁ B hml hv
  obtain ⟨rfl, hsz, hP, hK, hD0, hZ⟩ := hv
  have hx := B.exec
  have hb := B.bytes
  have hr := B.returns
  have hts := atoms_spec (ws := (wsOf yJx4a65c_add_72be8 cJx4a65c_add_72be8 4 none)) B.pre
  have hown : s.vm.findClass RJx4a65c = some m.cls := findClass_of_methodNamed B.named
  have hlocks := B.notSynchronized
  subst hsz
  have hD := hD0.self (sz := s.heap.size)
  generalize hAe : va_A (cs_t_AL_add3_0 cB cI cJ cZ cS cO h0 m1 h1 vs K V fz) s.heap.size = A at hD hZ ⊢
  have hA : ∀ q : Nat, s.heap.size ≤ q → A q := fun q h => by rw [← hAe]; exact Or.inr h
  have hS : va_S A s.heap s.heap [] := va_S.rf
  have hP : va_P (dC, dI) vwCl [(h0, .inr (0, [.int m1, .ref (V 42), .int 0])), (h1, .inr (6, vs))] s.heap := hP
  have hl := lv_entry ([.ref h0, .ref h1, .ref (V 42), .int 0]) (n := 4) (Nat.le_of_ble_eq_true rfl)
  rw [lg_entry_eq]
  generalize (lg_sl ([.ref h0, .ref h1, .ref (V 42), .int 0]) ++ List.replicate (4 - (lg_sl ([.ref h0, .ref h1, .ref (V 42), .int 0])).length) Slot.unset).toArray = ls at hl ⊢
  have hl : lv_has ls 4 [(0, .ref h0), (1, .ref h1), (2, .ref (V 42)), (3, .int 0)] := hl
  refine lv_iload_n hx hb dJx4a65c_add_72be8_0 rfl (lv_at hl 3 rfl) ?_
  refine lv_aload_n hx hb dJx4a65c_add_72be8_1 rfl (lv_at hl 2 rfl) ?_
  refine va_tlen hx hb hZ.dt hS (v := 0) rfl dJx4a65c_add_72be8_2 ?_
  refine lv_icmp_ne (tgt := 11) hx hb dJx4a65c_add_72be8_3 (by decide) (fun c_1 => ?_) (fun c_1 => ?_)
  · skip
    exact absurd c_1 (by decide)
  · skip
    refine lv_aload_n hx hb dJx4a65c_add_72be8_6 rfl (lv_at hl 0 rfl) ?_
    have hPc := hP.sub (ws' := [(h0, .inr (0, [.int m1, .ref (V 42), .int 0]))]) [0] rfl
    have hDc := hD.sub (ws' := [(h0, .inr (0, [.int m1, .ref (V 42), .int 0]))]) [0] (by decide) rfl
    have hKc := hK.sub (tys' := [(cB, .byte), (cI, .int), (cJ, .long), (cZ, .boolean), (cS, .object "StreamQueries$Source"), (cO, .object "java/lang/Object")]) [0, 1, 2, 3, 4, 5] rfl
    have hFc := va_free (wc := [(h0, .inr (0, [.int m1, .ref (V 42), .int 0]))]) hD hS hA [0] rfl
    refine va_callr (va_runV (As := []) (rest := []) ⟨hx, hb, hml, hown, hts⟩ (t_AL_grow0 l dC dI s.heap.size cB cI cJ cZ cS cO h0 m1 K V fz) (cwV 0 hts (gd_all (in_V kw_774 kw_776 kw_9 kw_199 kc_Jx4a65c_grow_d5877)) rfl rfl rfl (by decide +kernel) ⟨Nat.le_of_ble_eq_true rfl, Nat.le_of_ble_eq_true rfl⟩) ⟨fun a U g mk q => by obtain ⟨q0, q1, qP, qK, qD, qZ⟩ := q; exact ⟨q0, q1, qP, va_K.moved (u := U) (U := U.calling g mk a) (Vm.Alike.refl U.vm) qK, qD, zE.same (u := U) (U := U.calling g mk a) rfl rfl qZ⟩, va_recv hKc hPc (ci := 0) (q0 := 0) rfl rfl, fun U hU hW => ⟨rfl, by rw [hU], by rw [hU]; exact hPc, va_K.moved hW.alike hKc, hDc.weaken (fun _ _ _ _ => trivial), zE.go hZ hS hU hW hFc⟩⟩ rfl rfl hl.1 rfl (lv_room (Nat.le_of_ble_eq_true rfl)) dJx4a65c_add_72be8_7 ⟨Nat.le_of_ble_eq_true rfl, Nat.le_of_ble_eq_true rfl⟩) hS (fun q _ h => hFc q h) hFc (fun u ra_2 t_ H1 locs ht hvm hw hB hz1 hk1 hS => ?_)
    obtain ⟨hP1, hK1, hD1⟩ := hB
    rw [ht] at hP1
    have hK1 := va_K.moved hvm.symm hK1
    obtain ⟨hP, hD⟩ := va_join (wr := [(h1, .inr (6, vs))]) (w1 := [(h0, .inr (0, [.int m1, .ref ra_2, .int 0])), (ra_2, .inl (cO, 10, .inr (.inr (.inr (.inr (fun _ => none))))))]) hP hD [0] [1] rfl rfl (by decide) (by decide) hk1 hFc hP1 hD1
    have hK := (hK.sub (tys' := []) [] rfl).app hK1
    generalize H1 = H at hP hS ⊢
    have hP : va_P (dC, dI) vwCl [(h1, .inr (6, vs)), (h0, .inr (0, [.int m1, .ref ra_2, .int 0])), (ra_2, .inl (cO, 10, .inr (.inr (.inr (.inr (fun _ => none))))))] H := hP
    have hD : va_D A [(h1, .inr (6, vs)), (h0, .inr (0, [.int m1, .ref ra_2, .int 0])), (ra_2, .inl (cO, 10, .inr (.inr (.inr (.inr (fun _ => none))))))] := hD
    have hK : va_K (dC, dI) vwCl [(cB, .byte), (cI, .int), (cJ, .long), (cZ, .boolean), (cS, .object "StreamQueries$Source"), (cO, .object "java/lang/Object")] s := hK
    refine lv_astore_n (lv' := [(2, .ref ra_2), (0, .ref h0), (1, .ref h1), (3, .int 0)]) hx hb dJx4a65c_add_72be8_10 rfl hl (by decide) rfl (fun ls hl => ?_)
    refine lv_aload_n hx hb dJx4a65c_add_72be8_11 rfl (lv_at hl 0 rfl) ?_
    refine lv_iload_n hx hb dJx4a65c_add_72be8_12 rfl (lv_at hl 3 rfl) ?_
    refine lv_aload_n hx hb dJx4a65c_add_72be8_13 rfl (lv_at hl 2 rfl) ?_
    refine va_astqO hx hb hK hP hD hS 2 5 0 6 rfl rfl hZ.cSO rfl rfl (i := 0) (vp_in_nI (n := 0) (N := 10) (by omega) (by omega)) dJx4a65c_add_72be8_14 (fun H locs hP hD hS => ?_)
    rw [show (0 : Int32).toNatClampNeg = 0 from nI_clamp (n := 0) (by omega)] at hP hD
    have hP : va_P (dC, dI) vwCl [(h1, .inr (6, vs)), (h0, .inr (0, [.int m1, .ref ra_2, .int 0])), (ra_2, .inl (cO, 10, .inr (.inr (.inr (.inr (va_up (fun _ => none) 0 (some h1)))))))] H := hP
    have hD : va_D A [(h1, .inr (6, vs)), (h0, .inr (0, [.int m1, .ref ra_2, .int 0])), (ra_2, .inl (cO, 10, .inr (.inr (.inr (.inr (va_up (fun _ => none) 0 (some h1)))))))] := hD
    refine lv_aload_n hx hb dJx4a65c_add_72be8_15 rfl (lv_at hl 1 rfl) ?_
    refine lv_iload_n hx hb dJx4a65c_add_72be8_16 rfl (lv_at hl 3 rfl) ?_
    refine lv_iconst (v := 1) hx hb dJx4a65c_add_72be8_17 (by decide) ?_
    refine lv_iadd hx hb dJx4a65c_add_72be8_18 ?_
    refine lv_topi (fun x_3 ex_3 => ?_)
    have ex_3 : x_3 = 1 := ex_3.trans (by decide)
    subst ex_3
    refine va_put (D := (dC, dI)) (ci := 0) (v := .int 1) (ty := .int) (C := RJx4a65c) (T := TJx4a65c) (N := 3) hx hb hts (fun w h => List.mem_cons_of_mem _ (uG_Jx4a65c w h)) tyJx4a65c tyJx4a65c_ok nmJx4a65c hown hK hP hD hS 1 rfl rfl 2 (by decide) (hts _ (List.mem_cons_of_mem _ kw_755)) (fun _ h9 => h9) rfl (by decide +kernel) rfl rfl (Nat.le_of_ble_eq_true rfl) dJx4a65c_add_72be8_19 (fun H locs hP hD hS => ?_)
    have hP : va_P (dC, dI) vwCl [(h1, .inr (6, vs)), (h0, .inr (0, [.int m1, .ref ra_2, .int 1])), (ra_2, .inl (cO, 10, .inr (.inr (.inr (.inr (va_up (fun _ => none) 0 (some h1)))))))] H := hP
    have hD : va_D A [(h1, .inr (6, vs)), (h0, .inr (0, [.int m1, .ref ra_2, .int 1])), (ra_2, .inl (cO, 10, .inr (.inr (.inr (.inr (va_up (fun _ => none) 0 (some h1)))))))] := hD
    have hP9 := hP.sub (ws' := [(h0, .inr (0, [.int m1, .ref ra_2, .int 1])), (h1, .inr (6, vs)), (ra_2, .inl (cO, 10, .inr (.inr (.inr (.inr (va_up (fun _ => none) 0 (some h1)))))))]) [1, 0, 2] rfl
    have hD9 := hD.sub (ws' := [(h0, .inr (0, [.int m1, .ref ra_2, .int 1])), (h1, .inr (6, vs)), (ra_2, .inl (cO, 10, .inr (.inr (.inr (.inr (va_up (fun _ => none) 0 (some h1)))))))]) [1, 0, 2] (by decide) rfl
    have hK9 := hK.sub (tys' := [(cB, .byte), (cI, .int), (cJ, .long), (cZ, .boolean), (cS, .object "StreamQueries$Source"), (cO, .object "java/lang/Object")]) [0, 1, 2, 3, 4, 5] rfl
    refine W.widen (k := 1) (n := 10) (Nat.le_of_ble_eq_true rfl) (Nat.le_of_ble_eq_true rfl) ?_
    exact W.vret hx hb hr (fun t_ ht hW => ⟨⟨(), rfl, trivial, ra_2, by rw [ht]; exact hP9, va_K.moved hW.alike hK9, hD9⟩, hS.F ht⟩) hS.2.2 dJx4a65c_add_72be8_22
theorem dJx4a65c_add_9ea2d_0 : decode cJx4a65c_add_9ea2d 0 = .ok (.aload_n 0, 1) := by decide +kernel
theorem dJx4a65c_add_9ea2d_1 : decode cJx4a65c_add_9ea2d 1 = .ok (.dup, 1) := by decide +kernel
theorem dJx4a65c_add_9ea2d_2 : decode cJx4a65c_add_9ea2d 2 = .ok (.getfield 63, 3) := by decide +kernel
theorem dJx4a65c_add_9ea2d_5 : decode cJx4a65c_add_9ea2d 5 = .ok (.iconst 1, 1) := by decide +kernel
theorem dJx4a65c_add_9ea2d_6 : decode cJx4a65c_add_9ea2d 6 = .ok (.iadd, 1) := by decide +kernel
theorem dJx4a65c_add_9ea2d_7 : decode cJx4a65c_add_9ea2d 7 = .ok (.putfield 63, 3) := by decide +kernel
theorem dJx4a65c_add_9ea2d_10 : decode cJx4a65c_add_9ea2d 10 = .ok (.aload_n 0, 1) := by decide +kernel
theorem dJx4a65c_add_9ea2d_11 : decode cJx4a65c_add_9ea2d 11 = .ok (.aload_n 1, 1) := by decide +kernel
theorem dJx4a65c_add_9ea2d_12 : decode cJx4a65c_add_9ea2d 12 = .ok (.aload_n 0, 1) := by decide +kernel
theorem dJx4a65c_add_9ea2d_13 : decode cJx4a65c_add_9ea2d 13 = .ok (.getfield 9, 3) := by decide +kernel
theorem dJx4a65c_add_9ea2d_16 : decode cJx4a65c_add_9ea2d 16 = .ok (.aload_n 0, 1) := by decide +kernel
theorem dJx4a65c_add_9ea2d_17 : decode cJx4a65c_add_9ea2d 17 = .ok (.getfield 48, 3) := by decide +kernel
theorem dJx4a65c_add_9ea2d_20 : decode cJx4a65c_add_9ea2d 20 = .ok (.invokevirtual 131, 3) := by decide +kernel
theorem dJx4a65c_add_9ea2d_23 : decode cJx4a65c_add_9ea2d 23 = .ok (.iconst 1, 1) := by decide +kernel
theorem dJx4a65c_add_9ea2d_24 : decode cJx4a65c_add_9ea2d 24 = .ok (.ireturn, 1) := by decide +kernel
abbrev cs_t_AL_add_0 (cB cI cJ cZ cS cO : ClassId) (h0 : Nat) (m1 : Int32) (h1 : Nat) (vs : List Value) (K V : Nat → Nat) (fz : Value) : va_W := [(h0, .inr (0, [.int m1, .ref (V 42), .int 0])), (h1, .inr (6, vs))]
abbrev pc_t_AL_add_0 (dC : Nat → ClassId) (dI : Nat → Nat → Nat) (sz : Nat) (cB cI cJ cZ cS cO : ClassId) (h0 : Nat) (m1 : Int32) (h1 : Nat) (vs : List Value) (K V : Nat → Nat) (fz : Value) : Array Value → State → Prop := va_Pc [.ref h0, .ref h1] (fun U => U.heap.size = sz ∧ va_P (dC, dI) vwCl [(h0, .inr (0, [.int m1, .ref (V 42), .int 0])), (h1, .inr (6, vs))] U.heap ∧ va_K (dC, dI) vwCl [(cB, .byte), (cI, .int), (cJ, .long), (cZ, .boolean), (cS, .object "StreamQueries$Source"), (cO, .object "java/lang/Object")] U ∧ va_D (fun _ => True) [(h0, .inr (0, [.int m1, .ref (V 42), .int 0])), (h1, .inr (6, vs))] ∧ zE K V fz (va_A (cs_t_AL_add_0 cB cI cJ cZ cS cO h0 m1 h1 vs K V fz) sz) U)
abbrev qc_t_AL_add_0 (dC : Nat → ClassId) (dI : Nat → Nat → Nat) (cB cI cJ cZ cS cO : ClassId) (h0 : Nat) (m1 : Int32) (h1 : Nat) (vs : List Value) (K V : Nat → Nat) (fz : Value) (A : Nat → Prop) : Array Value → State → Outcome → State → Prop := va_Qi (fun (r : Int32) (u : Unit) => match u with | _ => r = 1) (fun (u : Unit) t_ => match u with | _ => ∃ a1 : Nat, va_P (dC, dI) vwCl [(h0, .inr (0, [.int (m1 + 1), .ref a1, .int 1])), (h1, .inr (6, vs)), (a1, .inl (cO, 10, .inr (.inr (.inr (.inr (va_up (fun _ => none) 0 (some h1)))))))] t_.heap ∧ va_K (dC, dI) vwCl [(cB, .byte), (cI, .int), (cJ, .long), (cZ, .boolean), (cS, .object "StreamQueries$Source"), (cO, .object "java/lang/Object")] t_ ∧ va_D A [(h0, .inr (0, [.int (m1 + 1), .ref a1, .int 1])), (h1, .inr (6, vs)), (a1, .inl (cO, 10, .inr (.inr (.inr (.inr (va_up (fun _ => none) 0 (some h1)))))))]) A
set_option maxHeartbeats 4000000 in
set_option maxRecDepth 100000 in
theorem t_AL_add_0 (l : Launch) (dC : Nat → ClassId) (dI : Nat → Nat → Nat) (sz : Nat) (cB cI cJ cZ cS cO : ClassId) (h0 : Nat) (m1 : Int32) (h1 : Nat) (vs : List Value) (K V : Nat → Nat) (fz : Value)  : Met l yJx4a65c_add_9ea2d (wsOf yJx4a65c_add_9ea2d cJx4a65c_add_9ea2d 2 (some .boolean)) ({ frames := 5, cells := 1, slots := 10, locals := 300 }) (pc_t_AL_add_0 dC dI sz cB cI cJ cZ cS cO h0 m1 h1 vs K V fz) (qc_t_AL_add_0 dC dI cB cI cJ cZ cS cO h0 m1 h1 vs K V fz (va_A (cs_t_AL_add_0 cB cI cJ cZ cS cO h0 m1 h1 vs K V fz) sz)) 1 10 (va_A (cs_t_AL_add_0 cB cI cJ cZ cS cO h0 m1 h1 vs K V fz) sz) := by
  refine Met.ofW (cc := cJx4a65c_add_9ea2d) (maxL := 2) (ret := (some .boolean)) (by decide) rfl ?_
  intro p e s m args below meth c s₁ B hml hv
  obtain ⟨rfl, hsz, hP, hK, hD0, hZ⟩ := hv
  have hx := B.exec
  have hb := B.bytes
  have hr := B.returns
  have hts := atoms_spec (ws := (wsOf yJx4a65c_add_9ea2d cJx4a65c_add_9ea2d 2 (some .boolean))) B.pre
  have hown : s.vm.findClass RJx4a65c = some m.cls := findClass_of_methodNamed B.named
  have hlocks := B.notSynchronized
  subst hsz
  have hD := hD0.self (sz := s.heap.size)
  generalize hAe : va_A (cs_t_AL_add_0 cB cI cJ cZ cS cO h0 m1 h1 vs K V fz) s.heap.size = A at hD hZ ⊢
  have hA : ∀ q : Nat, s.heap.size ≤ q → A q := fun q h => by rw [← hAe]; exact Or.inr h
  have hS : va_S A s.heap s.heap [] := va_S.rf
  have hP : va_P (dC, dI) vwCl [(h0, .inr (0, [.int m1, .ref (V 42), .int 0])), (h1, .inr (6, vs))] s.heap := hP
  have hl := lv_entry ([.ref h0, .ref h1]) (n := 2) (Nat.le_of_ble_eq_true rfl)
  rw [lg_entry_eq]
  generalize (lg_sl ([.ref h0, .ref h1]) ++ List.replicate (2 - (lg_sl ([.ref h0, .ref h1])).length) Slot.unset).toArray = ls at hl ⊢
  have hl : lv_has ls 2 [(0, .ref h0), (1, .ref h1)] := hl
  refine lv_aload_n hx hb dJx4a65c_add_9ea2d_0 rfl (lv_at hl 0 rfl) ?_
  refine lv_dup hx hb dJx4a65c_add_9ea2d_1 rfl ?_
  refine va_get (D := (dC, dI)) (ci := 0) (v := .int m1) (C := RJx4a65c) (T := TJx4a65c) (N := 3) hx hb hts (fun w h => List.mem_cons_of_mem _ (uG_Jx4a65c w h)) hown hK hP 0 rfl rfl 0 (by decide) (hts _ (List.mem_cons_of_mem _ kw_757)) (u_same (hts _ (List.mem_cons_of_mem _ kw_758))) rfl dJx4a65c_add_9ea2d_2 ?_
  refine lv_iconst (v := 1) hx hb dJx4a65c_add_9ea2d_5 (by decide) ?_
  refine lv_iadd hx hb dJx4a65c_add_9ea2d_6 ?_
  refine va_put (D := (dC, dI)) (ci := 0) (v := .int (m1 + 1)) (ty := .int) (C := RJx4a65c) (T := TJx4a65c) (N := 3) hx hb hts (fun w h => List.mem_cons_of_mem _ (uG_Jx4a65c w h)) tyJx4a65c tyJx4a65c_ok nmJx4a65c hown hK hP hD hS 0 rfl rfl 0 (by decide) (hts _ (List.mem_cons_of_mem _ kw_757)) (u_same (hts _ (List.mem_cons_of_mem _ kw_758))) rfl (by decide +kernel) rfl rfl (Nat.le_of_ble_eq_true rfl) dJx4a65c_add_9ea2d_7 (fun H locs hP hD hS => ?_)
  have hP : va_P (dC, dI) vwCl [(h0, .inr (0, [.int (m1 + 1), .ref (V 42), .int 0])), (h1, .inr (6, vs))] H := hP
  have hD : va_D A [(h0, .inr (0, [.int (m1 + 1), .ref (V 42), .int 0])), (h1, .inr (6, vs))] := hD
  refine lv_aload_n hx hb dJx4a65c_add_9ea2d_10 rfl (lv_at hl 0 rfl) ?_
  refine lv_aload_n hx hb dJx4a65c_add_9ea2d_11 rfl (lv_at hl 1 rfl) ?_
  refine lv_aload_n hx hb dJx4a65c_add_9ea2d_12 rfl (lv_at hl 0 rfl) ?_
  refine va_get (D := (dC, dI)) (ci := 0) (v := .ref (V 42)) (C := RJx4a65c) (T := TJx4a65c) (N := 3) hx hb hts (fun w h => List.mem_cons_of_mem _ (uG_Jx4a65c w h)) hown hK hP 0 rfl rfl 1 (by decide) (hts _ (List.mem_cons_of_mem _ kw_754)) (fun _ h9 => h9) rfl dJx4a65c_add_9ea2d_13 ?_
  refine lv_aload_n hx hb dJx4a65c_add_9ea2d_16 rfl (lv_at hl 0 rfl) ?_
  refine va_get (D := (dC, dI)) (ci := 0) (v := .int 0) (C := RJx4a65c) (T := TJx4a65c) (N := 3) hx hb hts (fun w h => List.mem_cons_of_mem _ (uG_Jx4a65c w h)) hown hK hP 0 rfl rfl 2 (by decide) (hts _ (List.mem_cons_of_mem _ kw_755)) (fun _ h9 => h9) rfl dJx4a65c_add_9ea2d_17 ?_
  have hPc := hP.sub (ws' := [(h0, .inr (0, [.int (m1 + 1), .ref (V 42), .int 0])), (h1, .inr (6, vs))]) [0, 1] rfl
  have hDc := hD.sub (ws' := [(h0, .inr (0, [.int (m1 + 1), .ref (V 42), .int 0])), (h1, .inr (6, vs))]) [0, 1] (by decide) rfl
  have hKc := hK.sub (tys' := [(cB, .byte), (cI, .int), (cJ, .long), (cZ, .boolean), (cS, .object "StreamQueries$Source"), (cO, .object "java/lang/Object")]) [0, 1, 2, 3, 4, 5] rfl
  have hFc := va_free (wc := [(h0, .inr (0, [.int (m1 + 1), .ref (V 42), .int 0])), (h1, .inr (6, vs))]) hD hS hA [0, 1] rfl
  refine va_callv (va_runV (As := [.ref h1, .ref (V 42), .int 0]) (rest := []) ⟨hx, hb, hml, hown, hts⟩ (t_AL_add3_0 l dC dI H.size cB cI cJ cZ cS cO h0 (m1 + 1) h1 vs K V fz) (cwV 3 hts (gd_all (in_V kw_770 kw_772 kw_8 kw_199 kc_Jx4a65c_add_72be8)) rfl rfl rfl (by decide +kernel) ⟨Nat.le_of_ble_eq_true rfl, Nat.le_of_ble_eq_true rfl⟩) ⟨fun a U g mk q => by obtain ⟨q0, q1, qP, qK, qD, qZ⟩ := q; exact ⟨q0, q1, qP, va_K.moved (u := U) (U := U.calling g mk a) (Vm.Alike.refl U.vm) qK, qD, zE.same (u := U) (U := U.calling g mk a) rfl rfl qZ⟩, va_recv hKc hPc (ci := 0) (q0 := 0) rfl rfl, fun U hU hW => ⟨rfl, by rw [hU], by rw [hU]; exact hPc, va_K.moved hW.alike hKc, hDc.weaken (fun _ _ _ _ => trivial), zE.go hZ hS hU hW hFc⟩⟩ rfl rfl hl.1 rfl (lv_room (Nat.le_of_ble_eq_true rfl)) dJx4a65c_add_9ea2d_20 ⟨Nat.le_of_ble_eq_true rfl, Nat.le_of_ble_eq_true rfl⟩) hS (fun q _ h => hFc q h) hFc (fun u t_ H1 locs ht hvm hw hB hz1 hk1 hS => ?_)
  obtain ⟨a1, hP1, hK1, hD1⟩ := hB
  rw [ht] at hP1
  have hK1 := va_K.moved hvm.symm hK1
  obtain ⟨hP, hD⟩ := va_join (wr := []) (w1 := [(h0, .inr (0, [.int (m1 + 1), .ref a1, .int 1])), (h1, .inr (6, vs)), (a1, .inl (cO, 10, .inr (.inr (.inr (.inr (va_up (fun _ => none) 0 (some h1)))))))]) hP hD [0, 1] [] rfl rfl (by decide) (by decide) hk1 hFc hP1 hD1
  have hK := (hK.sub (tys' := []) [] rfl).app hK1
  generalize H1 = H at hP hS ⊢
  have hP : va_P (dC, dI) vwCl [(h0, .inr (0, [.int (m1 + 1), .ref a1, .int 1])), (h1, .inr (6, vs)), (a1, .inl (cO, 10, .inr (.inr (.inr (.inr (va_up (fun _ => none) 0 (some h1)))))))] H := hP
  have hD : va_D A [(h0, .inr (0, [.int (m1 + 1), .ref a1, .int 1])), (h1, .inr (6, vs)), (a1, .inl (cO, 10, .inr (.inr (.inr (.inr (va_up (fun _ => none) 0 (some h1)))))))] := hD
  have hK : va_K (dC, dI) vwCl [(cB, .byte), (cI, .int), (cJ, .long), (cZ, .boolean), (cS, .object "StreamQueries$Source"), (cO, .object "java/lang/Object")] s := hK
  refine lv_iconst (v := 1) hx hb dJx4a65c_add_9ea2d_23 (by decide) ?_
  have hP9 := hP.sub (ws' := [(h0, .inr (0, [.int (m1 + 1), .ref a1, .int 1])), (h1, .inr (6, vs)), (a1, .inl (cO, 10, .inr (.inr (.inr (.inr (va_up (fun _ => none) 0 (some h1)))))))]) [0, 1, 2] rfl
  have hD9 := hD.sub (ws' := [(h0, .inr (0, [.int (m1 + 1), .ref a1, .int 1])), (h1, .inr (6, vs)), (a1, .inl (cO, 10, .inr (.inr (.inr (.inr (va_up (fun _ => none) 0 (some h1)))))))]) [0, 1, 2] (by decide) rfl
  have hK9 := hK.sub (tys' := [(cB, .byte), (cI, .int), (cJ, .long), (cZ, .boolean), (cS, .object "StreamQueries$Source"), (cO, .object "java/lang/Object")]) [0, 1, 2, 3, 4, 5] rfl
  refine W.widen (k := 1) (n := 10) (Nat.le_of_ble_eq_true rfl) (Nat.le_of_ble_eq_true rfl) ?_
  exact W.zret (v := 1) hx hb hr (by rfl) (fun t_ ht hW => ⟨⟨1, (), rfl, rfl, a1, by rw [ht]; exact hP9, va_K.moved hW.alike hK9, hD9⟩, hS.F ht⟩) hS.2.2 dJx4a65c_add_9ea2d_24
theorem dX6_init_0 : decode cX6_init 0 = .ok (.aload_n 0, 1) := by decide +kernel
theorem dX6_init_1 : decode cX6_init 1 = .ok (.invokespecial 3, 3) := by decide +kernel
theorem dX6_init_4 : decode cX6_init 4 = .ok (.aload_n 0, 1) := by decide +kernel
theorem dX6_init_5 : decode cX6_init 5 = .ok (.iconst (-1), 1) := by decide +kernel
theorem dX6_init_6 : decode cX6_init 6 = .ok (.putfield 9, 3) := by decide +kernel
theorem dX6_init_9 : decode cX6_init 9 = .ok (.aload_n 0, 1) := by decide +kernel
theorem dX6_init_10 : decode cX6_init 10 = .ok (.ldc2_w 15, 3) := by decide +kernel
theorem dX6_init_13 : decode cX6_init 13 = .ok (.putfield 17, 3) := by decide +kernel
theorem dX6_init_16 : decode cX6_init 16 = .ok (.aload_n 0, 1) := by decide +kernel
theorem dX6_init_17 : decode cX6_init 17 = .ok (.ldc2_w 15, 3) := by decide +kernel
theorem dX6_init_20 : decode cX6_init 20 = .ok (.putfield 21, 3) := by decide +kernel
theorem dX6_init_23 : decode cX6_init 23 = .ok (.aload_n 0, 1) := by decide +kernel
theorem dX6_init_24 : decode cX6_init 24 = .ok (.iconst (-1), 1) := by decide +kernel
theorem dX6_init_25 : decode cX6_init 25 = .ok (.putfield 24, 3) := by decide +kernel
theorem dX6_init_28 : decode cX6_init 28 = .ok (.aload_n 0, 1) := by decide +kernel
theorem dX6_init_29 : decode cX6_init 29 = .ok (.new 27, 3) := by decide +kernel
theorem dX6_init_32 : decode cX6_init 32 = .ok (.dup, 1) := by decide +kernel
theorem dX6_init_33 : decode cX6_init 33 = .ok (.invokespecial 29, 3) := by decide +kernel
theorem dX6_init_36 : decode cX6_init 36 = .ok (.putfield 30, 3) := by decide +kernel
theorem dX6_init_39 : decode cX6_init 39 = .ok (.return_, 1) := by decide +kernel
abbrev cs_t_X6_init (cB cI cJ cZ : ClassId) (h0 : Nat) : va_W := [(h0, .inr (7, [.int 0, .null, .int 0, .int 0, .long 0, .int 0, .long 0, .int 0, .int 0, .int 0, .int 0, .null]))]
abbrev pc_t_X6_init (dC : Nat → ClassId) (dI : Nat → Nat → Nat) (sz : Nat) (cB cI cJ cZ : ClassId) (h0 : Nat) : Array Value → State → Prop := va_Pc [.ref h0] (fun U => U.heap.size = sz ∧ va_P (dC, dI) vwCl [(h0, .inr (7, [.int 0, .null, .int 0, .int 0, .long 0, .int 0, .long 0, .int 0, .int 0, .int 0, .int 0, .null]))] U.heap ∧ va_K (dC, dI) vwCl [(cB, .byte), (cI, .int), (cJ, .long), (cZ, .boolean)] U ∧ va_D (fun _ => True) [(h0, .inr (7, [.int 0, .null, .int 0, .int 0, .long 0, .int 0, .long 0, .int 0, .int 0, .int 0, .int 0, .null]))])
abbrev qc_t_X6_init (dC : Nat → ClassId) (dI : Nat → Nat → Nat) (cB cI cJ cZ : ClassId) (h0 : Nat) (A : Nat → Prop) : Array Value → State → Outcome → State → Prop := va_Qv (fun (u : Unit) => match u with | _ => True) (fun (u : Unit) t_ => match u with | _ => ∃ (b0 b1 b2 b3 b4 : Nat), va_P (dC, dI) vwCl [(h0, .inr (7, [.int (-1), .null, .int 0, .int 0, .long (-1), .int 0, .long (-1), .int 0, .int 0, .int (-1), .int 0, .ref b0])), (b0, .inr (3, [.int 0, .ref b1, .ref b2, .ref b3, .ref b4])), (b1, .inl (cI, 8, .inl (fun _ => 0))), (b2, .inl (cJ, 8, .inr (.inl (fun _ => 0)))), (b3, .inl (cI, 8, .inl (fun _ => 0))), (b4, .inl (cI, 8, .inl (fun _ => 0)))] t_.heap ∧ va_K (dC, dI) vwCl [(cB, .byte), (cI, .int), (cJ, .long), (cZ, .boolean)] t_ ∧ va_D A [(h0, .inr (7, [.int (-1), .null, .int 0, .int 0, .long (-1), .int 0, .long (-1), .int 0, .int 0, .int (-1), .int 0, .ref b0])), (b0, .inr (3, [.int 0, .ref b1, .ref b2, .ref b3, .ref b4])), (b1, .inl (cI, 8, .inl (fun _ => 0))), (b2, .inl (cJ, 8, .inr (.inl (fun _ => 0)))), (b3, .inl (cI, 8, .inl (fun _ => 0))), (b4, .inl (cI, 8, .inl (fun _ => 0)))]) A
set_option maxHeartbeats 4000000 in
set_option maxRecDepth 100000 in
theorem t_X6_init (l : Launch) (dC : Nat → ClassId) (dI : Nat → Nat → Nat) (sz : Nat) (cB cI cJ cZ : ClassId) (h0 : Nat)  : Met l yX6_init (wsOf yX6_init cX6_init 1 none) ({ frames := 2, cells := 5, slots := 37, locals := 120 }) (pc_t_X6_init dC dI sz cB cI cJ cZ h0) (qc_t_X6_init dC dI cB cI cJ cZ h0 (va_A (cs_t_X6_init cB cI cJ cZ h0) sz)) 5 37 (va_A (cs_t_X6_init cB cI cJ cZ h0) sz) := by
  refine Met.ofW (cc := cX6_init) (maxL := 1) (ret := none) (by decide) rfl ?_
  intro p e s m args below meth c s₁ B hml hv
  obtain ⟨rfl, hsz, hP, hK, hD0⟩ := hv
  have hx := B.exec
  have hb := B.bytes
  have hr := B.returns
  have hts := atoms_spec (ws := (wsOf yX6_init cX6_init 1 none)) B.pre
  have hown : s.vm.findClass RX6 = some m.cls := findClass_of_methodNamed B.named
  have hlocks := B.notSynchronized
  have hin : meth.name = "<init>" := (name_of_methodNamed B.named B.method).1
  subst hsz
  have hD := hD0.self (sz := s.heap.size)
  generalize hAe : va_A (cs_t_X6_init cB cI cJ cZ h0) s.heap.size = A at hD ⊢
  have hA : ∀ q : Nat, s.heap.size ≤ q → A q := fun q h => by rw [← hAe]; exact Or.inr h
  have hS : va_S A s.heap s.heap [] := va_S.rf
  have hP : va_P (dC, dI) vwCl [(h0, .inr (7, [.int 0, .null, .int 0, .int 0, .long 0, .int 0, .long 0, .int 0, .int 0, .int 0, .int 0, .null]))] s.heap := hP
  have hl := lv_entry ([.ref h0]) (n := 1) (Nat.le_of_ble_eq_true rfl)
  rw [lg_entry_eq]
  generalize (lg_sl ([.ref h0]) ++ List.replicate (1 - (lg_sl ([.ref h0])).length) Slot.unset).toArray = ls at hl ⊢
  have hl : lv_has ls 1 [(0, .ref h0)] := hl
  refine lv_aload_n hx hb dX6_init_0 rfl (lv_at hl 0 rfl) ?_
  refine W.objInit hx hb hown (hts _ (List.mem_cons_of_mem _ kw_1051)) (hts _ (List.mem_cons_of_mem _ kw_214)) (hts _ (List.mem_cons_of_mem _ kc_objectInit)) rfl (by rw [hml]; exact hl.1) rfl dX6_init_1 (Nat.le_of_ble_eq_true rfl) (Nat.le_of_ble_eq_true rfl) ?_
  refine W.eq (g2 := F0 m 4 ls []) rfl ?_
  refine lv_aload_n hx hb dX6_init_4 rfl (lv_at hl 0 rfl) ?_
  refine lv_iconst (v := (-1)) hx hb dX6_init_5 (by decide) ?_
  refine va_put (D := (dC, dI)) (ci := 7) (v := .int (-1)) (ty := .int) (C := RX6) (T := TX6) (N := 12) hx hb hts (fun w h => List.mem_cons_of_mem _ (uG_X6 w h)) tyX6 tyX6_ok nmX6 hown hK hP hD hS 0 rfl rfl 0 (by decide) (hts _ (List.mem_cons_of_mem _ kw_1055)) (fun _ h9 => h9) rfl (by decide +kernel) rfl rfl (Nat.le_of_ble_eq_true rfl) dX6_init_6 (fun H locs hP hD hS => ?_)
  have hP : va_P (dC, dI) vwCl [(h0, .inr (7, [.int (-1), .null, .int 0, .int 0, .long 0, .int 0, .long 0, .int 0, .int 0, .int 0, .int 0, .null]))] H := hP
  have hD : va_D A [(h0, .inr (7, [.int (-1), .null, .int 0, .int 0, .long 0, .int 0, .long 0, .int 0, .int 0, .int 0, .int 0, .null]))] := hD
  refine lv_aload_n hx hb dX6_init_9 rfl (lv_at hl 0 rfl) ?_
  refine lv_ldc2 hx hb hown (hts _ (List.mem_cons_of_mem _ kw_1052)) dX6_init_10 ?_
  refine va_put (D := (dC, dI)) (ci := 7) (v := .long (-1)) (ty := .long) (C := RX6) (T := TX6) (N := 12) hx hb hts (fun w h => List.mem_cons_of_mem _ (uG_X6 w h)) tyX6 tyX6_ok nmX6 hown hK hP hD hS 0 rfl rfl 4 (by decide) (hts _ (List.mem_cons_of_mem _ kw_1066)) (fun _ h9 => h9) rfl (by decide +kernel) rfl rfl (Nat.le_of_ble_eq_true rfl) dX6_init_13 (fun H locs hP hD hS => ?_)
  have hP : va_P (dC, dI) vwCl [(h0, .inr (7, [.int (-1), .null, .int 0, .int 0, .long (-1), .int 0, .long 0, .int 0, .int 0, .int 0, .int 0, .null]))] H := hP
  have hD : va_D A [(h0, .inr (7, [.int (-1), .null, .int 0, .int 0, .long (-1), .int 0, .long 0, .int 0, .int 0, .int 0, .int 0, .null]))] := hD
  refine lv_aload_n hx hb dX6_init_16 rfl (lv_at hl 0 rfl) ?_
  refine lv_ldc2 hx hb hown (hts _ (List.mem_cons_of_mem _ kw_1052)) dX6_init_17 ?_
  refine va_put (D := (dC, dI)) (ci := 7) (v := .long (-1)) (ty := .long) (C := RX6) (T := TX6) (N := 12) hx hb hts (fun w h => List.mem_cons_of_mem _ (uG_X6 w h)) tyX6 tyX6_ok nmX6 hown hK hP hD hS 0 rfl rfl 6 (by decide) (hts _ (List.mem_cons_of_mem _ kw_1071)) (fun _ h9 => h9) rfl (by decide +kernel) rfl rfl (Nat.le_of_ble_eq_true rfl) dX6_init_20 (fun H locs hP hD hS => ?_)
  have hP : va_P (dC, dI) vwCl [(h0, .inr (7, [.int (-1), .null, .int 0, .int 0, .long (-1), .int 0, .long (-1), .int 0, .int 0, .int 0, .int 0, .null]))] H := hP
  have hD : va_D A [(h0, .inr (7, [.int (-1), .null, .int 0, .int 0, .long (-1), .int 0, .long (-1), .int 0, .int 0, .int 0, .int 0, .null]))] := hD
  refine lv_aload_n hx hb dX6_init_23 rfl (lv_at hl 0 rfl) ?_
  refine lv_iconst (v := (-1)) hx hb dX6_init_24 (by decide) ?_
  refine va_put (D := (dC, dI)) (ci := 7) (v := .int (-1)) (ty := .int) (C := RX6) (T := TX6) (N := 12) hx hb hts (fun w h => List.mem_cons_of_mem _ (uG_X6 w h)) tyX6 tyX6_ok nmX6 hown hK hP hD hS 0 rfl rfl 9 (by decide) (hts _ (List.mem_cons_of_mem _ kw_1079)) (fun _ h9 => h9) rfl (by decide +kernel) rfl rfl (Nat.le_of_ble_eq_true rfl) dX6_init_25 (fun H locs hP hD hS => ?_)
  have hP : va_P (dC, dI) vwCl [(h0, .inr (7, [.int (-1), .null, .int 0, .int 0, .long (-1), .int 0, .long (-1), .int 0, .int 0, .int (-1), .int 0, .null]))] H := hP
  have hD : va_D A [(h0, .inr (7, [.int (-1), .null, .int 0, .int 0, .long (-1), .int 0, .long (-1), .int 0, .int 0, .int (-1), .int 0, .null]))] := hD
  refine lv_aload_n hx hb dX6_init_28 rfl (lv_at hl 0 rfl) ?_
  refine va_new (ci := 3) (fs := [.int 0, .null, .null, .null, .null]) (C := RX2) (T := TX2) (N := 5) hx hb hts (fun w h => List.mem_cons_of_mem _ (uG_X2 w h)) tyX2 tyX2_ok hown (hts _ (List.mem_cons_of_mem _ kw_1053)) (hts _ (List.mem_cons_of_mem _ kw_623)) (hts _ (List.mem_cons_of_mem _ kw_196)) hK hP hD hS hA rfl (by decide +kernel) (Nat.le_of_ble_eq_true rfl) (Nat.le_of_ble_eq_true rfl) dX6_init_29 (fun q1 H hP hD hS => ?_)
  have hP : va_P (dC, dI) vwCl [(h0, .inr (7, [.int (-1), .null, .int 0, .int 0, .long (-1), .int 0, .long (-1), .int 0, .int 0, .int (-1), .int 0, .null])), (q1, .inr (3, [.int 0, .null, .null, .null, .null]))] H := hP
  have hD : va_D A [(h0, .inr (7, [.int (-1), .null, .int 0, .int 0, .long (-1), .int 0, .long (-1), .int 0, .int 0, .int (-1), .int 0, .null])), (q1, .inr (3, [.int 0, .null, .null, .null, .null]))] := hD
  refine W.widen (k := 1) (n := 5) (Nat.le_of_ble_eq_true rfl) (Nat.le_of_ble_eq_true rfl) ?_
  refine lv_dup hx hb dX6_init_32 rfl ?_
  have hPc := hP.sub (ws' := [(q1, .inr (3, [.int 0, .null, .null, .null, .null]))]) [1] rfl
  have hDc := hD.sub (ws' := [(q1, .inr (3, [.int 0, .null, .null, .null, .null]))]) [1] (by decide) rfl
  have hKc := hK.sub (tys' := [(cB, .byte), (cI, .int), (cJ, .long), (cZ, .boolean)]) [0, 1, 2, 3] rfl
  have hFc := va_free (wc := [(q1, .inr (3, [.int 0, .null, .null, .null, .null]))]) hD hS hA [1] rfl
  refine va_callv (va_runI (As := []) (rest := [.ref q1, .ref h0]) ⟨hx, hb, hml, hown, hts⟩ (t_X2_init l dC dI H.size cB cI cJ cZ q1) (cwI 0 hts (gd_all (in_I kc_X2_init)) rfl rfl rfl (hts _ (List.mem_cons_of_mem _ kw_196)) (hts _ (List.mem_cons_of_mem _ kw_1054)) (hts _ (List.mem_cons_of_mem _ kw_625)) rfl (by decide +kernel) ⟨Nat.le_of_ble_eq_true rfl, Nat.le_of_ble_eq_true rfl⟩) ⟨fun a U g mk q => by obtain ⟨q0, q1, qP, qK, qD⟩ := q; exact ⟨q0, q1, qP, va_K.moved (u := U) (U := U.calling g mk a) (Vm.Alike.refl U.vm) qK, qD⟩, fun U hU hW => ⟨rfl, by rw [hU], by rw [hU]; exact hPc, va_K.moved hW.alike hKc, hDc.weaken (fun _ _ _ _ => trivial)⟩⟩ rfl rfl hl.1 rfl (lv_room (Nat.le_of_ble_eq_true rfl)) dX6_init_33 ⟨Nat.le_of_ble_eq_true rfl, Nat.le_of_ble_eq_true rfl⟩) hS (fun q _ h => hFc q h) hFc (fun u t_ H1 locs ht hvm hw hB hz1 hk1 hS => ?_)
  obtain ⟨c2_1, c2_2, c2_3, c2_4, hP1, hK1, hD1⟩ := hB
  rw [ht] at hP1
  have hK1 := va_K.moved hvm.symm hK1
  obtain ⟨hP, hD⟩ := va_join (wr := [(h0, .inr (7, [.int (-1), .null, .int 0, .int 0, .long (-1), .int 0, .long (-1), .int 0, .int 0, .int (-1), .int 0, .null]))]) (w1 := [(q1, .inr (3, [.int 0, .ref c2_1, .ref c2_2, .ref c2_3, .ref c2_4])), (c2_1, .inl (cI, 8, .inl (fun _ => 0))), (c2_2, .inl (cJ, 8, .inr (.inl (fun _ => 0)))), (c2_3, .inl (cI, 8, .inl (fun _ => 0))), (c2_4, .inl (cI, 8, .inl (fun _ => 0)))]) hP hD [1] [0] rfl rfl (by decide) (by decide) hk1 hFc hP1 hD1
  have hK := (hK.sub (tys' := []) [] rfl).app hK1
  generalize H1 = H at hP hS ⊢
  have hP : va_P (dC, dI) vwCl [(h0, .inr (7, [.int (-1), .null, .int 0, .int 0, .long (-1), .int 0, .long (-1), .int 0, .int 0, .int (-1), .int 0, .null])), (q1, .inr (3, [.int 0, .ref c2_1, .ref c2_2, .ref c2_3, .ref c2_4])), (c2_1, .inl (cI, 8, .inl (fun _ => 0))), (c2_2, .inl (cJ, 8, .inr (.inl (fun _ => 0)))), (c2_3, .inl (cI, 8, .inl (fun _ => 0))), (c2_4, .inl (cI, 8, .inl (fun _ => 0)))] H := hP
  have hD : va_D A [(h0, .inr (7, [.int (-1), .null, .int 0, .int 0, .long (-1), .int 0, .long (-1), .int 0, .int 0, .int (-1), .int 0, .null])), (q1, .inr (3, [.int 0, .ref c2_1, .ref c2_2, .ref c2_3, .ref c2_4])), (c2_1, .inl (cI, 8, .inl (fun _ => 0))), (c2_2, .inl (cJ, 8, .inr (.inl (fun _ => 0)))), (c2_3, .inl (cI, 8, .inl (fun _ => 0))), (c2_4, .inl (cI, 8, .inl (fun _ => 0)))] := hD
  have hK : va_K (dC, dI) vwCl [(cB, .byte), (cI, .int), (cJ, .long), (cZ, .boolean)] s := hK
  refine va_putF (D := (dC, dI)) (ci := 7) (v := .ref q1) (ty := .object "StreamQueries$Columns") (C := RX6) (T := TX6) (N := 12) hx hb hts (fun w h => List.mem_cons_of_mem _ (uG_X6 w h)) tyX6 tyX6_ok nmX6 hown hK hP hD hS 0 rfl rfl 11 (by decide) (hts _ (List.mem_cons_of_mem _ kw_1085)) (fun _ h9 => h9) rfl hin rfl (by decide +kernel) rfl rfl (Nat.le_of_ble_eq_true rfl) dX6_init_36 (fun H locs hP hD hS => ?_)
  have hP : va_P (dC, dI) vwCl [(h0, .inr (7, [.int (-1), .null, .int 0, .int 0, .long (-1), .int 0, .long (-1), .int 0, .int 0, .int (-1), .int 0, .ref q1])), (q1, .inr (3, [.int 0, .ref c2_1, .ref c2_2, .ref c2_3, .ref c2_4])), (c2_1, .inl (cI, 8, .inl (fun _ => 0))), (c2_2, .inl (cJ, 8, .inr (.inl (fun _ => 0)))), (c2_3, .inl (cI, 8, .inl (fun _ => 0))), (c2_4, .inl (cI, 8, .inl (fun _ => 0)))] H := hP
  have hD : va_D A [(h0, .inr (7, [.int (-1), .null, .int 0, .int 0, .long (-1), .int 0, .long (-1), .int 0, .int 0, .int (-1), .int 0, .ref q1])), (q1, .inr (3, [.int 0, .ref c2_1, .ref c2_2, .ref c2_3, .ref c2_4])), (c2_1, .inl (cI, 8, .inl (fun _ => 0))), (c2_2, .inl (cJ, 8, .inr (.inl (fun _ => 0)))), (c2_3, .inl (cI, 8, .inl (fun _ => 0))), (c2_4, .inl (cI, 8, .inl (fun _ => 0)))] := hD
  have hP9 := hP.sub (ws' := [(h0, .inr (7, [.int (-1), .null, .int 0, .int 0, .long (-1), .int 0, .long (-1), .int 0, .int 0, .int (-1), .int 0, .ref q1])), (q1, .inr (3, [.int 0, .ref c2_1, .ref c2_2, .ref c2_3, .ref c2_4])), (c2_1, .inl (cI, 8, .inl (fun _ => 0))), (c2_2, .inl (cJ, 8, .inr (.inl (fun _ => 0)))), (c2_3, .inl (cI, 8, .inl (fun _ => 0))), (c2_4, .inl (cI, 8, .inl (fun _ => 0)))]) [0, 1, 2, 3, 4, 5] rfl
  have hD9 := hD.sub (ws' := [(h0, .inr (7, [.int (-1), .null, .int 0, .int 0, .long (-1), .int 0, .long (-1), .int 0, .int 0, .int (-1), .int 0, .ref q1])), (q1, .inr (3, [.int 0, .ref c2_1, .ref c2_2, .ref c2_3, .ref c2_4])), (c2_1, .inl (cI, 8, .inl (fun _ => 0))), (c2_2, .inl (cJ, 8, .inr (.inl (fun _ => 0)))), (c2_3, .inl (cI, 8, .inl (fun _ => 0))), (c2_4, .inl (cI, 8, .inl (fun _ => 0)))]) [0, 1, 2, 3, 4, 5] (by decide) rfl
  have hK9 := hK.sub (tys' := [(cB, .byte), (cI, .int), (cJ, .long), (cZ, .boolean)]) [0, 1, 2, 3] rfl
  refine W.widen (k := 5) (n := 37) (Nat.le_of_ble_eq_true rfl) (Nat.le_of_ble_eq_true rfl) ?_
  exact W.vret hx hb hr (fun t_ ht hW => ⟨⟨(), rfl, trivial, q1, c2_1, c2_2, c2_3, c2_4, by rw [ht]; exact hP9, va_K.moved hW.alike hK9, hD9⟩, hS.F ht⟩) hS.2.2 dX6_init_39
theorem dX5_init_0 : decode cX5_init 0 = .ok (.aload_n 0, 1) := by decide +kernel
theorem dX5_init_1 : decode cX5_init 1 = .ok (.invokespecial 3, 3) := by decide +kernel
theorem dX5_init_4 : decode cX5_init 4 = .ok (.aload_n 0, 1) := by decide +kernel
theorem dX5_init_5 : decode cX5_init 5 = .ok (.new 9, 3) := by decide +kernel
theorem dX5_init_8 : decode cX5_init 8 = .ok (.dup, 1) := by decide +kernel
theorem dX5_init_9 : decode cX5_init 9 = .ok (.invokespecial 11, 3) := by decide +kernel
theorem dX5_init_12 : decode cX5_init 12 = .ok (.putfield 12, 3) := by decide +kernel
theorem dX5_init_15 : decode cX5_init 15 = .ok (.aload_n 0, 1) := by decide +kernel
theorem dX5_init_16 : decode cX5_init 16 = .ok (.iconst 3, 1) := by decide +kernel
theorem dX5_init_17 : decode cX5_init 17 = .ok (.anewarray 18, 3) := by decide +kernel
theorem dX5_init_20 : decode cX5_init 20 = .ok (.putfield 20, 3) := by decide +kernel
theorem dX5_init_23 : decode cX5_init 23 = .ok (.aload_n 0, 1) := by decide +kernel
theorem dX5_init_24 : decode cX5_init 24 = .ok (.iconst (-1), 1) := by decide +kernel
theorem dX5_init_25 : decode cX5_init 25 = .ok (.putfield 24, 3) := by decide +kernel
theorem dX5_init_28 : decode cX5_init 28 = .ok (.aload_n 0, 1) := by decide +kernel
theorem dX5_init_29 : decode cX5_init 29 = .ok (.new 9, 3) := by decide +kernel
theorem dX5_init_32 : decode cX5_init 32 = .ok (.dup, 1) := by decide +kernel
theorem dX5_init_33 : decode cX5_init 33 = .ok (.invokespecial 11, 3) := by decide +kernel
theorem dX5_init_36 : decode cX5_init 36 = .ok (.putfield 28, 3) := by decide +kernel
theorem dX5_init_39 : decode cX5_init 39 = .ok (.aload_n 0, 1) := by decide +kernel
theorem dX5_init_40 : decode cX5_init 40 = .ok (.iconst (-1), 1) := by decide +kernel
theorem dX5_init_41 : decode cX5_init 41 = .ok (.putfield 31, 3) := by decide +kernel
theorem dX5_init_44 : decode cX5_init 44 = .ok (.aload_n 0, 1) := by decide +kernel
theorem dX5_init_45 : decode cX5_init 45 = .ok (.bipush 12, 2) := by decide +kernel
theorem dX5_init_47 : decode cX5_init 47 = .ok (.newarray .int, 2) := by decide +kernel
theorem dX5_init_49 : decode cX5_init 49 = .ok (.putfield 34, 3) := by decide +kernel
theorem dX5_init_52 : decode cX5_init 52 = .ok (.aload_n 0, 1) := by decide +kernel
theorem dX5_init_53 : decode cX5_init 53 = .ok (.bipush 10, 2) := by decide +kernel
theorem dX5_init_55 : decode cX5_init 55 = .ok (.putfield 38, 3) := by decide +kernel
theorem dX5_init_58 : decode cX5_init 58 = .ok (.return_, 1) := by decide +kernel
abbrev cs_t_X5_init (cB cI cJ cZ cS cO : ClassId) (h0 : Nat) (K V : Nat → Nat) (fz : Value) : va_W := [(h0, .inr (6, [.int 0, .int 0, .null, .null, .int 0, .int 0, .int 0, .int 0, .null, .int 0, .null, .int 0, .int 0, .int 0, .int 0]))]
abbrev pc_t_X5_init (dC : Nat → ClassId) (dI : Nat → Nat → Nat) (sz : Nat) (cB cI cJ cZ cS cO : ClassId) (h0 : Nat) (K V : Nat → Nat) (fz : Value) : Array Value → State → Prop := va_Pc [.ref h0] (fun U => U.heap.size = sz ∧ va_P (dC, dI) vwCl [(h0, .inr (6, [.int 0, .int 0, .null, .null, .int 0, .int 0, .int 0, .int 0, .null, .int 0, .null, .int 0, .int 0, .int 0, .int 0]))] U.heap ∧ va_K (dC, dI) vwCl [(cB, .byte), (cI, .int), (cJ, .long), (cZ, .boolean), (cS, .object "StreamQueries$Source"), (cO, .object "java/lang/Object")] U ∧ va_D (fun _ => True) [(h0, .inr (6, [.int 0, .int 0, .null, .null, .int 0, .int 0, .int 0, .int 0, .null, .int 0, .null, .int 0, .int 0, .int 0, .int 0]))] ∧ zE K V fz (va_A (cs_t_X5_init cB cI cJ cZ cS cO h0 K V fz) sz) U)
abbrev qc_t_X5_init (dC : Nat → ClassId) (dI : Nat → Nat → Nat) (cB cI cJ cZ cS cO : ClassId) (h0 : Nat) (K V : Nat → Nat) (fz : Value) (A : Nat → Prop) : Array Value → State → Outcome → State → Prop := va_Qv (fun (u : Unit) => match u with | _ => True) (fun (u : Unit) t_ => match u with | _ => ∃ (b0 b1 b2 b3 b4 so e0 e1 e2 e3 e4 ag : Nat), va_P (dC, dI) vwCl [(h0, .inr (6, [.int 0, .int 0, .ref b0, .ref so, .int 0, .int (-1), .int 0, .int 0, .ref e0, .int (-1), .ref ag, .int 0, .int 10, .int 0, .int 0])), (b0, .inr (3, [.int 0, .ref b1, .ref b2, .ref b3, .ref b4])), (b1, .inl (cI, 8, .inl (fun _ => 0))), (b2, .inl (cJ, 8, .inr (.inl (fun _ => 0)))), (b3, .inl (cI, 8, .inl (fun _ => 0))), (b4, .inl (cI, 8, .inl (fun _ => 0))), (so, .inl (cS, 3, .inr (.inr (.inr (.inr (fun _ => none)))))), (e0, .inr (3, [.int 0, .ref e1, .ref e2, .ref e3, .ref e4])), (e1, .inl (cI, 8, .inl (fun _ => 0))), (e2, .inl (cJ, 8, .inr (.inl (fun _ => 0)))), (e3, .inl (cI, 8, .inl (fun _ => 0))), (e4, .inl (cI, 8, .inl (fun _ => 0))), (ag, .inl (cI, 12, .inl (fun _ => 0)))] t_.heap ∧ va_K (dC, dI) vwCl [(cB, .byte), (cI, .int), (cJ, .long), (cZ, .boolean), (cS, .object "StreamQueries$Source"), (cO, .object "java/lang/Object")] t_ ∧ va_D A [(h0, .inr (6, [.int 0, .int 0, .ref b0, .ref so, .int 0, .int (-1), .int 0, .int 0, .ref e0, .int (-1), .ref ag, .int 0, .int 10, .int 0, .int 0])), (b0, .inr (3, [.int 0, .ref b1, .ref b2, .ref b3, .ref b4])), (b1, .inl (cI, 8, .inl (fun _ => 0))), (b2, .inl (cJ, 8, .inr (.inl (fun _ => 0)))), (b3, .inl (cI, 8, .inl (fun _ => 0))), (b4, .inl (cI, 8, .inl (fun _ => 0))), (so, .inl (cS, 3, .inr (.inr (.inr (.inr (fun _ => none)))))), (e0, .inr (3, [.int 0, .ref e1, .ref e2, .ref e3, .ref e4])), (e1, .inl (cI, 8, .inl (fun _ => 0))), (e2, .inl (cJ, 8, .inr (.inl (fun _ => 0)))), (e3, .inl (cI, 8, .inl (fun _ => 0))), (e4, .inl (cI, 8, .inl (fun _ => 0))), (ag, .inl (cI, 12, .inl (fun _ => 0)))]) A
set_option maxHeartbeats 4000000 in
set_option maxRecDepth 100000 in
theorem t_X5_init (l : Launch) (dC : Nat → ClassId) (dI : Nat → Nat → Nat) (sz : Nat) (cB cI cJ cZ cS cO : ClassId) (h0 : Nat) (K V : Nat → Nat) (fz : Value)  : Met l yX5_init (wsOf yX5_init cX5_init 1 none) ({ frames := 2, cells := 12, slots := 89, locals := 120 }) (pc_t_X5_init dC dI sz cB cI cJ cZ cS cO h0 K V fz) (qc_t_X5_init dC dI cB cI cJ cZ cS cO h0 K V fz (va_A (cs_t_X5_init cB cI cJ cZ cS cO h0 K V fz) sz)) 12 89 (va_A (cs_t_X5_init cB cI cJ cZ cS cO h0 K V fz) sz) := by
  refine Met.ofW (cc := cX5_init) (maxL := 1) (ret := none) (by decide) rfl ?_
  intro p e s m args below meth c s₁ B hml hv
  obtain ⟨rfl, hsz, hP, hK, hD0, hZ⟩ := hv
  have hx := B.exec
  have hb := B.bytes
  have hr := B.returns
  have hts := atoms_spec (ws := (wsOf yX5_init cX5_init 1 none)) B.pre
  have hown : s.vm.findClass RX5 = some m.cls := findClass_of_methodNamed B.named
  have hlocks := B.notSynchronized
  have hin : meth.name = "<init>" := (name_of_methodNamed B.named B.method).1
  subst hsz
  have hD := hD0.self (sz := s.heap.size)
  generalize hAe : va_A (cs_t_X5_init cB cI cJ cZ cS cO h0 K V fz) s.heap.size = A at hD hZ ⊢
  have hA : ∀ q : Nat, s.heap.size ≤ q → A q := fun q h => by rw [← hAe]; exact Or.inr h
  have hS : va_S A s.heap s.heap [] := va_S.rf
  have hP : va_P (dC, dI) vwCl [(h0, .inr (6, [.int 0, .int 0, .null, .null, .int 0, .int 0, .int 0, .int 0, .null, .int 0, .null, .int 0, .int 0, .int 0, .int 0]))] s.heap := hP
  have hl := lv_entry ([.ref h0]) (n := 1) (Nat.le_of_ble_eq_true rfl)
  rw [lg_entry_eq]
  generalize (lg_sl ([.ref h0]) ++ List.replicate (1 - (lg_sl ([.ref h0])).length) Slot.unset).toArray = ls at hl ⊢
  have hl : lv_has ls 1 [(0, .ref h0)] := hl
  refine lv_aload_n hx hb dX5_init_0 rfl (lv_at hl 0 rfl) ?_
  refine W.objInit hx hb hown (hts _ (List.mem_cons_of_mem _ kw_621)) (hts _ (List.mem_cons_of_mem _ kw_214)) (hts _ (List.mem_cons_of_mem _ kc_objectInit)) rfl (by rw [hml]; exact hl.1) rfl dX5_init_1 (Nat.le_of_ble_eq_true rfl) (Nat.le_of_ble_eq_true rfl) ?_
  refine W.eq (g2 := F0 m 4 ls []) rfl ?_
  refine lv_aload_n hx hb dX5_init_4 rfl (lv_at hl 0 rfl) ?_
  refine va_new (ci := 3) (fs := [.int 0, .null, .null, .null, .null]) (C := RX2) (T := TX2) (N := 5) hx hb hts (fun w h => List.mem_cons_of_mem _ (uG_X2 w h)) tyX2 tyX2_ok hown (hts _ (List.mem_cons_of_mem _ kw_622)) (hts _ (List.mem_cons_of_mem _ kw_623)) (hts _ (List.mem_cons_of_mem _ kw_196)) hK hP hD hS hA rfl (by decide +kernel) (Nat.le_of_ble_eq_true rfl) (Nat.le_of_ble_eq_true rfl) dX5_init_5 (fun q1 H hP hD hS => ?_)
  have hP : va_P (dC, dI) vwCl [(h0, .inr (6, [.int 0, .int 0, .null, .null, .int 0, .int 0, .int 0, .int 0, .null, .int 0, .null, .int 0, .int 0, .int 0, .int 0])), (q1, .inr (3, [.int 0, .null, .null, .null, .null]))] H := hP
  have hD : va_D A [(h0, .inr (6, [.int 0, .int 0, .null, .null, .int 0, .int 0, .int 0, .int 0, .null, .int 0, .null, .int 0, .int 0, .int 0, .int 0])), (q1, .inr (3, [.int 0, .null, .null, .null, .null]))] := hD
  refine W.widen (k := 1) (n := 5) (Nat.le_of_ble_eq_true rfl) (Nat.le_of_ble_eq_true rfl) ?_
  refine lv_dup hx hb dX5_init_8 rfl ?_
  have hPc := hP.sub (ws' := [(q1, .inr (3, [.int 0, .null, .null, .null, .null]))]) [1] rfl
  have hDc := hD.sub (ws' := [(q1, .inr (3, [.int 0, .null, .null, .null, .null]))]) [1] (by decide) rfl
  have hKc := hK.sub (tys' := [(cB, .byte), (cI, .int), (cJ, .long), (cZ, .boolean)]) [0, 1, 2, 3] rfl
  have hFc := va_free (wc := [(q1, .inr (3, [.int 0, .null, .null, .null, .null]))]) hD hS hA [1] rfl
  refine va_callv (va_runI (As := []) (rest := [.ref q1, .ref h0]) ⟨hx, hb, hml, hown, hts⟩ (t_X2_init l dC dI H.size cB cI cJ cZ q1) (cwI 0 hts (gd_all (in_I kc_X2_init)) rfl rfl rfl (hts _ (List.mem_cons_of_mem _ kw_196)) (hts _ (List.mem_cons_of_mem _ kw_624)) (hts _ (List.mem_cons_of_mem _ kw_625)) rfl (by decide +kernel) ⟨Nat.le_of_ble_eq_true rfl, Nat.le_of_ble_eq_true rfl⟩) ⟨fun a U g mk q => by obtain ⟨q0, q1, qP, qK, qD⟩ := q; exact ⟨q0, q1, qP, va_K.moved (u := U) (U := U.calling g mk a) (Vm.Alike.refl U.vm) qK, qD⟩, fun U hU hW => ⟨rfl, by rw [hU], by rw [hU]; exact hPc, va_K.moved hW.alike hKc, hDc.weaken (fun _ _ _ _ => trivial)⟩⟩ rfl rfl hl.1 rfl (lv_room (Nat.le_of_ble_eq_true rfl)) dX5_init_9 ⟨Nat.le_of_ble_eq_true rfl, Nat.le_of_ble_eq_true rfl⟩) hS (fun q _ h => hFc q h) hFc (fun u t_ H1 locs ht hvm hw hB hz1 hk1 hS => ?_)
  obtain ⟨c2_1, c2_2, c2_3, c2_4, hP1, hK1, hD1⟩ := hB
  rw [ht] at hP1
  have hK1 := va_K.moved hvm.symm hK1
  obtain ⟨hP, hD⟩ := va_join (wr := [(h0, .inr (6, [.int 0, .int 0, .null, .null, .int 0, .int 0, .int 0, .int 0, .null, .int 0, .null, .int 0, .int 0, .int 0, .int 0]))]) (w1 := [(q1, .inr (3, [.int 0, .ref c2_1, .ref c2_2, .ref c2_3, .ref c2_4])), (c2_1, .inl (cI, 8, .inl (fun _ => 0))), (c2_2, .inl (cJ, 8, .inr (.inl (fun _ => 0)))), (c2_3, .inl (cI, 8, .inl (fun _ => 0))), (c2_4, .inl (cI, 8, .inl (fun _ => 0)))]) hP hD [1] [0] rfl rfl (by decide) (by decide) hk1 hFc hP1 hD1
  have hK := (hK.sub (tys' := [(cS, .object "StreamQueries$Source"), (cO, .object "java/lang/Object")]) [4, 5] rfl).app hK1
  generalize H1 = H at hP hS ⊢
  have hP : va_P (dC, dI) vwCl [(h0, .inr (6, [.int 0, .int 0, .null, .null, .int 0, .int 0, .int 0, .int 0, .null, .int 0, .null, .int 0, .int 0, .int 0, .int 0])), (q1, .inr (3, [.int 0, .ref c2_1, .ref c2_2, .ref c2_3, .ref c2_4])), (c2_1, .inl (cI, 8, .inl (fun _ => 0))), (c2_2, .inl (cJ, 8, .inr (.inl (fun _ => 0)))), (c2_3, .inl (cI, 8, .inl (fun _ => 0))), (c2_4, .inl (cI, 8, .inl (fun _ => 0)))] H := hP
  have hD : va_D A [(h0, .inr (6, [.int 0, .int 0, .null, .null, .int 0, .int 0, .int 0, .int 0, .null, .int 0, .null, .int 0, .int 0, .int 0, .int 0])), (q1, .inr (3, [.int 0, .ref c2_1, .ref c2_2, .ref c2_3, .ref c2_4])), (c2_1, .inl (cI, 8, .inl (fun _ => 0))), (c2_2, .inl (cJ, 8, .inr (.inl (fun _ => 0)))), (c2_3, .inl (cI, 8, .inl (fun _ => 0))), (c2_4, .inl (cI, 8, .inl (fun _ => 0)))] := hD
  have hK : va_K (dC, dI) vwCl [(cS, .object "StreamQueries$Source"), (cO, .object "java/lang/Object"), (cB, .byte), (cI, .int), (cJ, .long), (cZ, .boolean)] s := hK
  refine va_putF (D := (dC, dI)) (ci := 6) (v := .ref q1) (ty := .object "StreamQueries$Columns") (C := RX5) (T := TX5) (N := 15) hx hb hts (fun w h => List.mem_cons_of_mem _ (uG_X5 w h)) tyX5 tyX5_ok nmX5 hown hK hP hD hS 0 rfl rfl 2 (by decide) (hts _ (List.mem_cons_of_mem _ kw_660)) (fun _ h9 => h9) rfl hin rfl (by decide +kernel) rfl rfl (Nat.le_of_ble_eq_true rfl) dX5_init_12 (fun H locs hP hD hS => ?_)
  have hP : va_P (dC, dI) vwCl [(h0, .inr (6, [.int 0, .int 0, .ref q1, .null, .int 0, .int 0, .int 0, .int 0, .null, .int 0, .null, .int 0, .int 0, .int 0, .int 0])), (q1, .inr (3, [.int 0, .ref c2_1, .ref c2_2, .ref c2_3, .ref c2_4])), (c2_1, .inl (cI, 8, .inl (fun _ => 0))), (c2_2, .inl (cJ, 8, .inr (.inl (fun _ => 0)))), (c2_3, .inl (cI, 8, .inl (fun _ => 0))), (c2_4, .inl (cI, 8, .inl (fun _ => 0)))] H := hP
  have hD : va_D A [(h0, .inr (6, [.int 0, .int 0, .ref q1, .null, .int 0, .int 0, .int 0, .int 0, .null, .int 0, .null, .int 0, .int 0, .int 0, .int 0])), (q1, .inr (3, [.int 0, .ref c2_1, .ref c2_2, .ref c2_3, .ref c2_4])), (c2_1, .inl (cI, 8, .inl (fun _ => 0))), (c2_2, .inl (cJ, 8, .inr (.inl (fun _ => 0)))), (c2_3, .inl (cI, 8, .inl (fun _ => 0))), (c2_4, .inl (cI, 8, .inl (fun _ => 0)))] := hD
  refine lv_aload_n hx hb dX5_init_15 rfl (lv_at hl 0 rfl) ?_
  refine lv_iconst (v := 3) hx hb dX5_init_16 (by decide) ?_
  refine va_newq (C := "StreamQueries$Source") hx hb hown (hts _ (List.mem_cons_of_mem _ kw_654)) hZ.aoS hK hP hD hS hA (n := 3) (N' := 3) (by decide) (by decide) (by decide) (Nat.le_of_ble_eq_true rfl) (Nat.le_of_ble_eq_true rfl) dX5_init_17 (fun q3 cA3 H hK3 hP hD hS => ?_)
  rw [va_sameO hK3 6 0 rfl rfl] at hP hD
  have hP : va_P (dC, dI) vwCl [(h0, .inr (6, [.int 0, .int 0, .ref q1, .null, .int 0, .int 0, .int 0, .int 0, .null, .int 0, .null, .int 0, .int 0, .int 0, .int 0])), (q1, .inr (3, [.int 0, .ref c2_1, .ref c2_2, .ref c2_3, .ref c2_4])), (c2_1, .inl (cI, 8, .inl (fun _ => 0))), (c2_2, .inl (cJ, 8, .inr (.inl (fun _ => 0)))), (c2_3, .inl (cI, 8, .inl (fun _ => 0))), (c2_4, .inl (cI, 8, .inl (fun _ => 0))), (q3, .inl (cS, 3, .inr (.inr (.inr (.inr (fun _ => none))))))] H := hP
  have hD : va_D A [(h0, .inr (6, [.int 0, .int 0, .ref q1, .null, .int 0, .int 0, .int 0, .int 0, .null, .int 0, .null, .int 0, .int 0, .int 0, .int 0])), (q1, .inr (3, [.int 0, .ref c2_1, .ref c2_2, .ref c2_3, .ref c2_4])), (c2_1, .inl (cI, 8, .inl (fun _ => 0))), (c2_2, .inl (cJ, 8, .inr (.inl (fun _ => 0)))), (c2_3, .inl (cI, 8, .inl (fun _ => 0))), (c2_4, .inl (cI, 8, .inl (fun _ => 0))), (q3, .inl (cS, 3, .inr (.inr (.inr (.inr (fun _ => none))))))] := hD
  refine W.widen (k := 6) (n := 40) (Nat.le_of_ble_eq_true rfl) (Nat.le_of_ble_eq_true rfl) ?_
  refine va_putF (D := (dC, dI)) (ci := 6) (v := .ref q3) (ty := .array (.object "StreamQueries$Source")) (C := RX5) (T := TX5) (N := 15) hx hb hts (fun w h => List.mem_cons_of_mem _ (uG_X5 w h)) tyX5 tyX5_ok nmX5 hown hK hP hD hS 0 rfl rfl 3 (by decide) (hts _ (List.mem_cons_of_mem _ kw_665)) (fun _ h9 => h9) rfl hin rfl (by decide +kernel) rfl rfl (Nat.le_of_ble_eq_true rfl) dX5_init_20 (fun H locs hP hD hS => ?_)
  have hP : va_P (dC, dI) vwCl [(h0, .inr (6, [.int 0, .int 0, .ref q1, .ref q3, .int 0, .int 0, .int 0, .int 0, .null, .int 0, .null, .int 0, .int 0, .int 0, .int 0])), (q1, .inr (3, [.int 0, .ref c2_1, .ref c2_2, .ref c2_3, .ref c2_4])), (c2_1, .inl (cI, 8, .inl (fun _ => 0))), (c2_2, .inl (cJ, 8, .inr (.inl (fun _ => 0)))), (c2_3, .inl (cI, 8, .inl (fun _ => 0))), (c2_4, .inl (cI, 8, .inl (fun _ => 0))), (q3, .inl (cS, 3, .inr (.inr (.inr (.inr (fun _ => none))))))] H := hP
  have hD : va_D A [(h0, .inr (6, [.int 0, .int 0, .ref q1, .ref q3, .int 0, .int 0, .int 0, .int 0, .null, .int 0, .null, .int 0, .int 0, .int 0, .int 0])), (q1, .inr (3, [.int 0, .ref c2_1, .ref c2_2, .ref c2_3, .ref c2_4])), (c2_1, .inl (cI, 8, .inl (fun _ => 0))), (c2_2, .inl (cJ, 8, .inr (.inl (fun _ => 0)))), (c2_3, .inl (cI, 8, .inl (fun _ => 0))), (c2_4, .inl (cI, 8, .inl (fun _ => 0))), (q3, .inl (cS, 3, .inr (.inr (.inr (.inr (fun _ => none))))))] := hD
  refine lv_aload_n hx hb dX5_init_23 rfl (lv_at hl 0 rfl) ?_
  refine lv_iconst (v := (-1)) hx hb dX5_init_24 (by decide) ?_
  refine va_put (D := (dC, dI)) (ci := 6) (v := .int (-1)) (ty := .int) (C := RX5) (T := TX5) (N := 15) hx hb hts (fun w h => List.mem_cons_of_mem _ (uG_X5 w h)) tyX5 tyX5_ok nmX5 hown hK hP hD hS 0 rfl rfl 5 (by decide) (hts _ (List.mem_cons_of_mem _ kw_673)) (fun _ h9 => h9) rfl (by decide +kernel) rfl rfl (Nat.le_of_ble_eq_true rfl) dX5_init_25 (fun H locs hP hD hS => ?_)
  have hP : va_P (dC, dI) vwCl [(h0, .inr (6, [.int 0, .int 0, .ref q1, .ref q3, .int 0, .int (-1), .int 0, .int 0, .null, .int 0, .null, .int 0, .int 0, .int 0, .int 0])), (q1, .inr (3, [.int 0, .ref c2_1, .ref c2_2, .ref c2_3, .ref c2_4])), (c2_1, .inl (cI, 8, .inl (fun _ => 0))), (c2_2, .inl (cJ, 8, .inr (.inl (fun _ => 0)))), (c2_3, .inl (cI, 8, .inl (fun _ => 0))), (c2_4, .inl (cI, 8, .inl (fun _ => 0))), (q3, .inl (cS, 3, .inr (.inr (.inr (.inr (fun _ => none))))))] H := hP
  have hD : va_D A [(h0, .inr (6, [.int 0, .int 0, .ref q1, .ref q3, .int 0, .int (-1), .int 0, .int 0, .null, .int 0, .null, .int 0, .int 0, .int 0, .int 0])), (q1, .inr (3, [.int 0, .ref c2_1, .ref c2_2, .ref c2_3, .ref c2_4])), (c2_1, .inl (cI, 8, .inl (fun _ => 0))), (c2_2, .inl (cJ, 8, .inr (.inl (fun _ => 0)))), (c2_3, .inl (cI, 8, .inl (fun _ => 0))), (c2_4, .inl (cI, 8, .inl (fun _ => 0))), (q3, .inl (cS, 3, .inr (.inr (.inr (.inr (fun _ => none))))))] := hD
  refine lv_aload_n hx hb dX5_init_28 rfl (lv_at hl 0 rfl) ?_
  refine va_new (ci := 3) (fs := [.int 0, .null, .null, .null, .null]) (C := RX2) (T := TX2) (N := 5) hx hb hts (fun w h => List.mem_cons_of_mem _ (uG_X2 w h)) tyX2 tyX2_ok hown (hts _ (List.mem_cons_of_mem _ kw_622)) (hts _ (List.mem_cons_of_mem _ kw_623)) (hts _ (List.mem_cons_of_mem _ kw_196)) hK hP hD hS hA rfl (by decide +kernel) (Nat.le_of_ble_eq_true rfl) (Nat.le_of_ble_eq_true rfl) dX5_init_29 (fun q4 H hP hD hS => ?_)
  have hP : va_P (dC, dI) vwCl [(h0, .inr (6, [.int 0, .int 0, .ref q1, .ref q3, .int 0, .int (-1), .int 0, .int 0, .null, .int 0, .null, .int 0, .int 0, .int 0, .int 0])), (q1, .inr (3, [.int 0, .ref c2_1, .ref c2_2, .ref c2_3, .ref c2_4])), (c2_1, .inl (cI, 8, .inl (fun _ => 0))), (c2_2, .inl (cJ, 8, .inr (.inl (fun _ => 0)))), (c2_3, .inl (cI, 8, .inl (fun _ => 0))), (c2_4, .inl (cI, 8, .inl (fun _ => 0))), (q3, .inl (cS, 3, .inr (.inr (.inr (.inr (fun _ => none)))))), (q4, .inr (3, [.int 0, .null, .null, .null, .null]))] H := hP
  have hD : va_D A [(h0, .inr (6, [.int 0, .int 0, .ref q1, .ref q3, .int 0, .int (-1), .int 0, .int 0, .null, .int 0, .null, .int 0, .int 0, .int 0, .int 0])), (q1, .inr (3, [.int 0, .ref c2_1, .ref c2_2, .ref c2_3, .ref c2_4])), (c2_1, .inl (cI, 8, .inl (fun _ => 0))), (c2_2, .inl (cJ, 8, .inr (.inl (fun _ => 0)))), (c2_3, .inl (cI, 8, .inl (fun _ => 0))), (c2_4, .inl (cI, 8, .inl (fun _ => 0))), (q3, .inl (cS, 3, .inr (.inr (.inr (.inr (fun _ => none)))))), (q4, .inr (3, [.int 0, .null, .null, .null, .null]))] := hD
  refine W.widen (k := 7) (n := 45) (Nat.le_of_ble_eq_true rfl) (Nat.le_of_ble_eq_true rfl) ?_
  refine lv_dup hx hb dX5_init_32 rfl ?_
  have hPc := hP.sub (ws' := [(q4, .inr (3, [.int 0, .null, .null, .null, .null]))]) [7] rfl
  have hDc := hD.sub (ws' := [(q4, .inr (3, [.int 0, .null, .null, .null, .null]))]) [7] (by decide) rfl
  have hKc := hK.sub (tys' := [(cB, .byte), (cI, .int), (cJ, .long), (cZ, .boolean)]) [2, 3, 4, 5] rfl
  have hFc := va_free (wc := [(q4, .inr (3, [.int 0, .null, .null, .null, .null]))]) hD hS hA [7] rfl
  refine va_callv (va_runI (As := []) (rest := [.ref q4, .ref h0]) ⟨hx, hb, hml, hown, hts⟩ (t_X2_init l dC dI H.size cB cI cJ cZ q4) (cwI 0 hts (gd_all (in_I kc_X2_init)) rfl rfl rfl (hts _ (List.mem_cons_of_mem _ kw_196)) (hts _ (List.mem_cons_of_mem _ kw_624)) (hts _ (List.mem_cons_of_mem _ kw_625)) rfl (by decide +kernel) ⟨Nat.le_of_ble_eq_true rfl, Nat.le_of_ble_eq_true rfl⟩) ⟨fun a U g mk q => by obtain ⟨q0, q1, qP, qK, qD⟩ := q; exact ⟨q0, q1, qP, va_K.moved (u := U) (U := U.calling g mk a) (Vm.Alike.refl U.vm) qK, qD⟩, fun U hU hW => ⟨rfl, by rw [hU], by rw [hU]; exact hPc, va_K.moved hW.alike hKc, hDc.weaken (fun _ _ _ _ => trivial)⟩⟩ rfl rfl hl.1 rfl (lv_room (Nat.le_of_ble_eq_true rfl)) dX5_init_33 ⟨Nat.le_of_ble_eq_true rfl, Nat.le_of_ble_eq_true rfl⟩) hS (fun q _ h => hFc q h) hFc (fun u t_ H1 locs ht hvm hw hB hz1 hk1 hS => ?_)
  obtain ⟨c5_1, c5_2, c5_3, c5_4, hP1, hK1, hD1⟩ := hB
  rw [ht] at hP1
  have hK1 := va_K.moved hvm.symm hK1
  obtain ⟨hP, hD⟩ := va_join (wr := [(h0, .inr (6, [.int 0, .int 0, .ref q1, .ref q3, .int 0, .int (-1), .int 0, .int 0, .null, .int 0, .null, .int 0, .int 0, .int 0, .int 0])), (q1, .inr (3, [.int 0, .ref c2_1, .ref c2_2, .ref c2_3, .ref c2_4])), (c2_1, .inl (cI, 8, .inl (fun _ => 0))), (c2_2, .inl (cJ, 8, .inr (.inl (fun _ => 0)))), (c2_3, .inl (cI, 8, .inl (fun _ => 0))), (c2_4, .inl (cI, 8, .inl (fun _ => 0))), (q3, .inl (cS, 3, .inr (.inr (.inr (.inr (fun _ => none))))))]) (w1 := [(q4, .inr (3, [.int 0, .ref c5_1, .ref c5_2, .ref c5_3, .ref c5_4])), (c5_1, .inl (cI, 8, .inl (fun _ => 0))), (c5_2, .inl (cJ, 8, .inr (.inl (fun _ => 0)))), (c5_3, .inl (cI, 8, .inl (fun _ => 0))), (c5_4, .inl (cI, 8, .inl (fun _ => 0)))]) hP hD [7] [0, 1, 2, 3, 4, 5, 6] rfl rfl (by decide) (by decide) hk1 hFc hP1 hD1
  have hK := (hK.sub (tys' := [(cS, .object "StreamQueries$Source"), (cO, .object "java/lang/Object")]) [0, 1] rfl).app hK1
  generalize H1 = H at hP hS ⊢
  have hP : va_P (dC, dI) vwCl [(h0, .inr (6, [.int 0, .int 0, .ref q1, .ref q3, .int 0, .int (-1), .int 0, .int 0, .null, .int 0, .null, .int 0, .int 0, .int 0, .int 0])), (q1, .inr (3, [.int 0, .ref c2_1, .ref c2_2, .ref c2_3, .ref c2_4])), (c2_1, .inl (cI, 8, .inl (fun _ => 0))), (c2_2, .inl (cJ, 8, .inr (.inl (fun _ => 0)))), (c2_3, .inl (cI, 8, .inl (fun _ => 0))), (c2_4, .inl (cI, 8, .inl (fun _ => 0))), (q3, .inl (cS, 3, .inr (.inr (.inr (.inr (fun _ => none)))))), (q4, .inr (3, [.int 0, .ref c5_1, .ref c5_2, .ref c5_3, .ref c5_4])), (c5_1, .inl (cI, 8, .inl (fun _ => 0))), (c5_2, .inl (cJ, 8, .inr (.inl (fun _ => 0)))), (c5_3, .inl (cI, 8, .inl (fun _ => 0))), (c5_4, .inl (cI, 8, .inl (fun _ => 0)))] H := hP
  have hD : va_D A [(h0, .inr (6, [.int 0, .int 0, .ref q1, .ref q3, .int 0, .int (-1), .int 0, .int 0, .null, .int 0, .null, .int 0, .int 0, .int 0, .int 0])), (q1, .inr (3, [.int 0, .ref c2_1, .ref c2_2, .ref c2_3, .ref c2_4])), (c2_1, .inl (cI, 8, .inl (fun _ => 0))), (c2_2, .inl (cJ, 8, .inr (.inl (fun _ => 0)))), (c2_3, .inl (cI, 8, .inl (fun _ => 0))), (c2_4, .inl (cI, 8, .inl (fun _ => 0))), (q3, .inl (cS, 3, .inr (.inr (.inr (.inr (fun _ => none)))))), (q4, .inr (3, [.int 0, .ref c5_1, .ref c5_2, .ref c5_3, .ref c5_4])), (c5_1, .inl (cI, 8, .inl (fun _ => 0))), (c5_2, .inl (cJ, 8, .inr (.inl (fun _ => 0)))), (c5_3, .inl (cI, 8, .inl (fun _ => 0))), (c5_4, .inl (cI, 8, .inl (fun _ => 0)))] := hD
  have hK : va_K (dC, dI) vwCl [(cS, .object "StreamQueries$Source"), (cO, .object "java/lang/Object"), (cB, .byte), (cI, .int), (cJ, .long), (cZ, .boolean)] s := hK
  refine va_putF (D := (dC, dI)) (ci := 6) (v := .ref q4) (ty := .object "StreamQueries$Columns") (C := RX5) (T := TX5) (N := 15) hx hb hts (fun w h => List.mem_cons_of_mem _ (uG_X5 w h)) tyX5 tyX5_ok nmX5 hown hK hP hD hS 0 rfl rfl 8 (by decide) (hts _ (List.mem_cons_of_mem _ kw_682)) (fun _ h9 => h9) rfl hin rfl (by decide +kernel) rfl rfl (Nat.le_of_ble_eq_true rfl) dX5_init_36 (fun H locs hP hD hS => ?_)
  have hP : va_P (dC, dI) vwCl [(h0, .inr (6, [.int 0, .int 0, .ref q1, .ref q3, .int 0, .int (-1), .int 0, .int 0, .ref q4, .int 0, .null, .int 0, .int 0, .int 0, .int 0])), (q1, .inr (3, [.int 0, .ref c2_1, .ref c2_2, .ref c2_3, .ref c2_4])), (c2_1, .inl (cI, 8, .inl (fun _ => 0))), (c2_2, .inl (cJ, 8, .inr (.inl (fun _ => 0)))), (c2_3, .inl (cI, 8, .inl (fun _ => 0))), (c2_4, .inl (cI, 8, .inl (fun _ => 0))), (q3, .inl (cS, 3, .inr (.inr (.inr (.inr (fun _ => none)))))), (q4, .inr (3, [.int 0, .ref c5_1, .ref c5_2, .ref c5_3, .ref c5_4])), (c5_1, .inl (cI, 8, .inl (fun _ => 0))), (c5_2, .inl (cJ, 8, .inr (.inl (fun _ => 0)))), (c5_3, .inl (cI, 8, .inl (fun _ => 0))), (c5_4, .inl (cI, 8, .inl (fun _ => 0)))] H := hP
  have hD : va_D A [(h0, .inr (6, [.int 0, .int 0, .ref q1, .ref q3, .int 0, .int (-1), .int 0, .int 0, .ref q4, .int 0, .null, .int 0, .int 0, .int 0, .int 0])), (q1, .inr (3, [.int 0, .ref c2_1, .ref c2_2, .ref c2_3, .ref c2_4])), (c2_1, .inl (cI, 8, .inl (fun _ => 0))), (c2_2, .inl (cJ, 8, .inr (.inl (fun _ => 0)))), (c2_3, .inl (cI, 8, .inl (fun _ => 0))), (c2_4, .inl (cI, 8, .inl (fun _ => 0))), (q3, .inl (cS, 3, .inr (.inr (.inr (.inr (fun _ => none)))))), (q4, .inr (3, [.int 0, .ref c5_1, .ref c5_2, .ref c5_3, .ref c5_4])), (c5_1, .inl (cI, 8, .inl (fun _ => 0))), (c5_2, .inl (cJ, 8, .inr (.inl (fun _ => 0)))), (c5_3, .inl (cI, 8, .inl (fun _ => 0))), (c5_4, .inl (cI, 8, .inl (fun _ => 0)))] := hD
  refine lv_aload_n hx hb dX5_init_39 rfl (lv_at hl 0 rfl) ?_
  refine lv_iconst (v := (-1)) hx hb dX5_init_40 (by decide) ?_
  refine va_put (D := (dC, dI)) (ci := 6) (v := .int (-1)) (ty := .int) (C := RX5) (T := TX5) (N := 15) hx hb hts (fun w h => List.mem_cons_of_mem _ (uG_X5 w h)) tyX5 tyX5_ok nmX5 hown hK hP hD hS 0 rfl rfl 9 (by decide) (hts _ (List.mem_cons_of_mem _ kw_686)) (fun _ h9 => h9) rfl (by decide +kernel) rfl rfl (Nat.le_of_ble_eq_true rfl) dX5_init_41 (fun H locs hP hD hS => ?_)
  have hP : va_P (dC, dI) vwCl [(h0, .inr (6, [.int 0, .int 0, .ref q1, .ref q3, .int 0, .int (-1), .int 0, .int 0, .ref q4, .int (-1), .null, .int 0, .int 0, .int 0, .int 0])), (q1, .inr (3, [.int 0, .ref c2_1, .ref c2_2, .ref c2_3, .ref c2_4])), (c2_1, .inl (cI, 8, .inl (fun _ => 0))), (c2_2, .inl (cJ, 8, .inr (.inl (fun _ => 0)))), (c2_3, .inl (cI, 8, .inl (fun _ => 0))), (c2_4, .inl (cI, 8, .inl (fun _ => 0))), (q3, .inl (cS, 3, .inr (.inr (.inr (.inr (fun _ => none)))))), (q4, .inr (3, [.int 0, .ref c5_1, .ref c5_2, .ref c5_3, .ref c5_4])), (c5_1, .inl (cI, 8, .inl (fun _ => 0))), (c5_2, .inl (cJ, 8, .inr (.inl (fun _ => 0)))), (c5_3, .inl (cI, 8, .inl (fun _ => 0))), (c5_4, .inl (cI, 8, .inl (fun _ => 0)))] H := hP
  have hD : va_D A [(h0, .inr (6, [.int 0, .int 0, .ref q1, .ref q3, .int 0, .int (-1), .int 0, .int 0, .ref q4, .int (-1), .null, .int 0, .int 0, .int 0, .int 0])), (q1, .inr (3, [.int 0, .ref c2_1, .ref c2_2, .ref c2_3, .ref c2_4])), (c2_1, .inl (cI, 8, .inl (fun _ => 0))), (c2_2, .inl (cJ, 8, .inr (.inl (fun _ => 0)))), (c2_3, .inl (cI, 8, .inl (fun _ => 0))), (c2_4, .inl (cI, 8, .inl (fun _ => 0))), (q3, .inl (cS, 3, .inr (.inr (.inr (.inr (fun _ => none)))))), (q4, .inr (3, [.int 0, .ref c5_1, .ref c5_2, .ref c5_3, .ref c5_4])), (c5_1, .inl (cI, 8, .inl (fun _ => 0))), (c5_2, .inl (cJ, 8, .inr (.inl (fun _ => 0)))), (c5_3, .inl (cI, 8, .inl (fun _ => 0))), (c5_4, .inl (cI, 8, .inl (fun _ => 0)))] := hD
  refine lv_aload_n hx hb dX5_init_44 rfl (lv_at hl 0 rfl) ?_
  refine lv_bipush (v := 12) hx hb dX5_init_45 (by decide) ?_
  refine va_newa (atype := .int) (ty := .int) (a0 := (12, .inl (fun _ => 0))) hx hb (hts _ (List.mem_cons_of_mem _ kn_I)) rfl hK hP hD hS hA (n := 12) (N' := 12) (fun _ => rfl) (by decide) (by decide) (by decide) (Nat.le_of_ble_eq_true rfl) (Nat.le_of_ble_eq_true rfl) dX5_init_47 (fun q6 cA6 H hK6 hP hD hS => ?_)
  rw [va_sameI hK6 6 3 rfl rfl] at hP hD
  have hP : va_P (dC, dI) vwCl [(h0, .inr (6, [.int 0, .int 0, .ref q1, .ref q3, .int 0, .int (-1), .int 0, .int 0, .ref q4, .int (-1), .null, .int 0, .int 0, .int 0, .int 0])), (q1, .inr (3, [.int 0, .ref c2_1, .ref c2_2, .ref c2_3, .ref c2_4])), (c2_1, .inl (cI, 8, .inl (fun _ => 0))), (c2_2, .inl (cJ, 8, .inr (.inl (fun _ => 0)))), (c2_3, .inl (cI, 8, .inl (fun _ => 0))), (c2_4, .inl (cI, 8, .inl (fun _ => 0))), (q3, .inl (cS, 3, .inr (.inr (.inr (.inr (fun _ => none)))))), (q4, .inr (3, [.int 0, .ref c5_1, .ref c5_2, .ref c5_3, .ref c5_4])), (c5_1, .inl (cI, 8, .inl (fun _ => 0))), (c5_2, .inl (cJ, 8, .inr (.inl (fun _ => 0)))), (c5_3, .inl (cI, 8, .inl (fun _ => 0))), (c5_4, .inl (cI, 8, .inl (fun _ => 0))), (q6, .inl (cI, 12, .inl (fun _ => 0)))] H := hP
  have hD : va_D A [(h0, .inr (6, [.int 0, .int 0, .ref q1, .ref q3, .int 0, .int (-1), .int 0, .int 0, .ref q4, .int (-1), .null, .int 0, .int 0, .int 0, .int 0])), (q1, .inr (3, [.int 0, .ref c2_1, .ref c2_2, .ref c2_3, .ref c2_4])), (c2_1, .inl (cI, 8, .inl (fun _ => 0))), (c2_2, .inl (cJ, 8, .inr (.inl (fun _ => 0)))), (c2_3, .inl (cI, 8, .inl (fun _ => 0))), (c2_4, .inl (cI, 8, .inl (fun _ => 0))), (q3, .inl (cS, 3, .inr (.inr (.inr (.inr (fun _ => none)))))), (q4, .inr (3, [.int 0, .ref c5_1, .ref c5_2, .ref c5_3, .ref c5_4])), (c5_1, .inl (cI, 8, .inl (fun _ => 0))), (c5_2, .inl (cJ, 8, .inr (.inl (fun _ => 0)))), (c5_3, .inl (cI, 8, .inl (fun _ => 0))), (c5_4, .inl (cI, 8, .inl (fun _ => 0))), (q6, .inl (cI, 12, .inl (fun _ => 0)))] := hD
  refine W.widen (k := 12) (n := 89) (Nat.le_of_ble_eq_true rfl) (Nat.le_of_ble_eq_true rfl) ?_
  refine va_putF (D := (dC, dI)) (ci := 6) (v := .ref q6) (ty := .array .int) (C := RX5) (T := TX5) (N := 15) hx hb hts (fun w h => List.mem_cons_of_mem _ (uG_X5 w h)) tyX5 tyX5_ok nmX5 hown hK hP hD hS 0 rfl rfl 10 (by decide) (hts _ (List.mem_cons_of_mem _ kw_690)) (fun _ h9 => h9) rfl hin rfl (by decide +kernel) rfl rfl (Nat.le_of_ble_eq_true rfl) dX5_init_49 (fun H locs hP hD hS => ?_)
  have hP : va_P (dC, dI) vwCl [(h0, .inr (6, [.int 0, .int 0, .ref q1, .ref q3, .int 0, .int (-1), .int 0, .int 0, .ref q4, .int (-1), .ref q6, .int 0, .int 0, .int 0, .int 0])), (q1, .inr (3, [.int 0, .ref c2_1, .ref c2_2, .ref c2_3, .ref c2_4])), (c2_1, .inl (cI, 8, .inl (fun _ => 0))), (c2_2, .inl (cJ, 8, .inr (.inl (fun _ => 0)))), (c2_3, .inl (cI, 8, .inl (fun _ => 0))), (c2_4, .inl (cI, 8, .inl (fun _ => 0))), (q3, .inl (cS, 3, .inr (.inr (.inr (.inr (fun _ => none)))))), (q4, .inr (3, [.int 0, .ref c5_1, .ref c5_2, .ref c5_3, .ref c5_4])), (c5_1, .inl (cI, 8, .inl (fun _ => 0))), (c5_2, .inl (cJ, 8, .inr (.inl (fun _ => 0)))), (c5_3, .inl (cI, 8, .inl (fun _ => 0))), (c5_4, .inl (cI, 8, .inl (fun _ => 0))), (q6, .inl (cI, 12, .inl (fun _ => 0)))] H := hP
  have hD : va_D A [(h0, .inr (6, [.int 0, .int 0, .ref q1, .ref q3, .int 0, .int (-1), .int 0, .int 0, .ref q4, .int (-1), .ref q6, .int 0, .int 0, .int 0, .int 0])), (q1, .inr (3, [.int 0, .ref c2_1, .ref c2_2, .ref c2_3, .ref c2_4])), (c2_1, .inl (cI, 8, .inl (fun _ => 0))), (c2_2, .inl (cJ, 8, .inr (.inl (fun _ => 0)))), (c2_3, .inl (cI, 8, .inl (fun _ => 0))), (c2_4, .inl (cI, 8, .inl (fun _ => 0))), (q3, .inl (cS, 3, .inr (.inr (.inr (.inr (fun _ => none)))))), (q4, .inr (3, [.int 0, .ref c5_1, .ref c5_2, .ref c5_3, .ref c5_4])), (c5_1, .inl (cI, 8, .inl (fun _ => 0))), (c5_2, .inl (cJ, 8, .inr (.inl (fun _ => 0)))), (c5_3, .inl (cI, 8, .inl (fun _ => 0))), (c5_4, .inl (cI, 8, .inl (fun _ => 0))), (q6, .inl (cI, 12, .inl (fun _ => 0)))] := hD
  refine lv_aload_n hx hb dX5_init_52 rfl (lv_at hl 0 rfl) ?_
  refine lv_bipush (v := 10) hx hb dX5_init_53 (by decide) ?_
  refine va_put (D := (dC, dI)) (ci := 6) (v := .int 10) (ty := .int) (C := RX5) (T := TX5) (N := 15) hx hb hts (fun w h => List.mem_cons_of_mem _ (uG_X5 w h)) tyX5 tyX5_ok nmX5 hown hK hP hD hS 0 rfl rfl 12 (by decide) (hts _ (List.mem_cons_of_mem _ kw_698)) (fun _ h9 => h9) rfl (by decide +kernel) rfl rfl (Nat.le_of_ble_eq_true rfl) dX5_init_55 (fun H locs hP hD hS => ?_)
  have hP : va_P (dC, dI) vwCl [(h0, .inr (6, [.int 0, .int 0, .ref q1, .ref q3, .int 0, .int (-1), .int 0, .int 0, .ref q4, .int (-1), .ref q6, .int 0, .int 10, .int 0, .int 0])), (q1, .inr (3, [.int 0, .ref c2_1, .ref c2_2, .ref c2_3, .ref c2_4])), (c2_1, .inl (cI, 8, .inl (fun _ => 0))), (c2_2, .inl (cJ, 8, .inr (.inl (fun _ => 0)))), (c2_3, .inl (cI, 8, .inl (fun _ => 0))), (c2_4, .inl (cI, 8, .inl (fun _ => 0))), (q3, .inl (cS, 3, .inr (.inr (.inr (.inr (fun _ => none)))))), (q4, .inr (3, [.int 0, .ref c5_1, .ref c5_2, .ref c5_3, .ref c5_4])), (c5_1, .inl (cI, 8, .inl (fun _ => 0))), (c5_2, .inl (cJ, 8, .inr (.inl (fun _ => 0)))), (c5_3, .inl (cI, 8, .inl (fun _ => 0))), (c5_4, .inl (cI, 8, .inl (fun _ => 0))), (q6, .inl (cI, 12, .inl (fun _ => 0)))] H := hP
  have hD : va_D A [(h0, .inr (6, [.int 0, .int 0, .ref q1, .ref q3, .int 0, .int (-1), .int 0, .int 0, .ref q4, .int (-1), .ref q6, .int 0, .int 10, .int 0, .int 0])), (q1, .inr (3, [.int 0, .ref c2_1, .ref c2_2, .ref c2_3, .ref c2_4])), (c2_1, .inl (cI, 8, .inl (fun _ => 0))), (c2_2, .inl (cJ, 8, .inr (.inl (fun _ => 0)))), (c2_3, .inl (cI, 8, .inl (fun _ => 0))), (c2_4, .inl (cI, 8, .inl (fun _ => 0))), (q3, .inl (cS, 3, .inr (.inr (.inr (.inr (fun _ => none)))))), (q4, .inr (3, [.int 0, .ref c5_1, .ref c5_2, .ref c5_3, .ref c5_4])), (c5_1, .inl (cI, 8, .inl (fun _ => 0))), (c5_2, .inl (cJ, 8, .inr (.inl (fun _ => 0)))), (c5_3, .inl (cI, 8, .inl (fun _ => 0))), (c5_4, .inl (cI, 8, .inl (fun _ => 0))), (q6, .inl (cI, 12, .inl (fun _ => 0)))] := hD
  have hP9 := hP.sub (ws' := [(h0, .inr (6, [.int 0, .int 0, .ref q1, .ref q3, .int 0, .int (-1), .int 0, .int 0, .ref q4, .int (-1), .ref q6, .int 0, .int 10, .int 0, .int 0])), (q1, .inr (3, [.int 0, .ref c2_1, .ref c2_2, .ref c2_3, .ref c2_4])), (c2_1, .inl (cI, 8, .inl (fun _ => 0))), (c2_2, .inl (cJ, 8, .inr (.inl (fun _ => 0)))), (c2_3, .inl (cI, 8, .inl (fun _ => 0))), (c2_4, .inl (cI, 8, .inl (fun _ => 0))), (q3, .inl (cS, 3, .inr (.inr (.inr (.inr (fun _ => none)))))), (q4, .inr (3, [.int 0, .ref c5_1, .ref c5_2, .ref c5_3, .ref c5_4])), (c5_1, .inl (cI, 8, .inl (fun _ => 0))), (c5_2, .inl (cJ, 8, .inr (.inl (fun _ => 0)))), (c5_3, .inl (cI, 8, .inl (fun _ => 0))), (c5_4, .inl (cI, 8, .inl (fun _ => 0))), (q6, .inl (cI, 12, .inl (fun _ => 0)))]) [0, 1, 2, 3, 4, 5, 6, 7, 8, 9, 10, 11, 12] rfl
  have hD9 := hD.sub (ws' := [(h0, .inr (6, [.int 0, .int 0, .ref q1, .ref q3, .int 0, .int (-1), .int 0, .int 0, .ref q4, .int (-1), .ref q6, .int 0, .int 10, .int 0, .int 0])), (q1, .inr (3, [.int 0, .ref c2_1, .ref c2_2, .ref c2_3, .ref c2_4])), (c2_1, .inl (cI, 8, .inl (fun _ => 0))), (c2_2, .inl (cJ, 8, .inr (.inl (fun _ => 0)))), (c2_3, .inl (cI, 8, .inl (fun _ => 0))), (c2_4, .inl (cI, 8, .inl (fun _ => 0))), (q3, .inl (cS, 3, .inr (.inr (.inr (.inr (fun _ => none)))))), (q4, .inr (3, [.int 0, .ref c5_1, .ref c5_2, .ref c5_3, .ref c5_4])), (c5_1, .inl (cI, 8, .inl (fun _ => 0))), (c5_2, .inl (cJ, 8, .inr (.inl (fun _ => 0)))), (c5_3, .inl (cI, 8, .inl (fun _ => 0))), (c5_4, .inl (cI, 8, .inl (fun _ => 0))), (q6, .inl (cI, 12, .inl (fun _ => 0)))]) [0, 1, 2, 3, 4, 5, 6, 7, 8, 9, 10, 11, 12] (by decide) rfl
  have hK9 := hK.sub (tys' := [(cB, .byte), (cI, .int), (cJ, .long), (cZ, .boolean), (cS, .object "StreamQueries$Source"), (cO, .object "java/lang/Object")]) [2, 3, 4, 5, 0, 1] rfl
  refine W.widen (k := 12) (n := 89) (Nat.le_of_ble_eq_true rfl) (Nat.le_of_ble_eq_true rfl) ?_
  exact W.vret hx hb hr (fun t_ ht hW => ⟨⟨(), rfl, trivial, q1, c2_1, c2_2, c2_3, c2_4, q3, q4, c5_1, c5_2, c5_3, c5_4, q6, by rw [ht]; exact hP9, va_K.moved hW.alike hK9, hD9⟩, hS.F ht⟩) hS.2.2 dX5_init_58
theorem dX3_init_0 : decode cX3_init 0 = .ok (.aload_n 0, 1) := by decide +kernel
theorem dX3_init_1 : decode cX3_init 1 = .ok (.invokespecial 1, 3) := by decide +kernel
theorem dX3_init_4 : decode cX3_init 4 = .ok (.aload_n 0, 1) := by decide +kernel
theorem dX3_init_5 : decode cX3_init 5 = .ok (.new 7, 3) := by decide +kernel
theorem dX3_init_8 : decode cX3_init 8 = .ok (.dup, 1) := by decide +kernel
theorem dX3_init_9 : decode cX3_init 9 = .ok (.invokespecial 9, 3) := by decide +kernel
theorem dX3_init_12 : decode cX3_init 12 = .ok (.putfield 10, 3) := by decide +kernel
theorem dX3_init_15 : decode cX3_init 15 = .ok (.aload_n 0, 1) := by decide +kernel
theorem dX3_init_16 : decode cX3_init 16 = .ok (.getfield 10, 3) := by decide +kernel
theorem dX3_init_19 : decode cX3_init 19 = .ok (.aload_n 1, 1) := by decide +kernel
theorem dX3_init_20 : decode cX3_init 20 = .ok (.invokevirtual 16, 3) := by decide +kernel
theorem dX3_init_23 : decode cX3_init 23 = .ok (.pop, 1) := by decide +kernel
theorem dX3_init_24 : decode cX3_init 24 = .ok (.aload_n 0, 1) := by decide +kernel
theorem dX3_init_25 : decode cX3_init 25 = .ok (.aload_n 1, 1) := by decide +kernel
theorem dX3_init_26 : decode cX3_init 26 = .ok (.getfield 20, 3) := by decide +kernel
theorem dX3_init_29 : decode cX3_init 29 = .ok (.putfield 26, 3) := by decide +kernel
theorem dX3_init_32 : decode cX3_init 32 = .ok (.return_, 1) := by decide +kernel
abbrev cs_t_X3_init (cB cI cJ cZ cS cO : ClassId) (h0 : Nat) (h1 hI : Nat) (f0 f1 f3 f4 f5 f6 f7 f8 f9 f10 f11 f12 f13 f14 : Value) (K V : Nat → Nat) (fz : Value) : va_W := [(h0, .inr (4, [.null, .null, .null, .int 0, .int 0, .int 0])), (h1, .inr (6, [f0, f1, .ref hI, f3, f4, f5, f6, f7, f8, f9, f10, f11, f12, f13, f14]))]
abbrev pc_t_X3_init (dC : Nat → ClassId) (dI : Nat → Nat → Nat) (sz : Nat) (cB cI cJ cZ cS cO : ClassId) (h0 : Nat) (h1 hI : Nat) (f0 f1 f3 f4 f5 f6 f7 f8 f9 f10 f11 f12 f13 f14 : Value) (K V : Nat → Nat) (fz : Value) : Array Value → State → Prop := va_Pc [.ref h0, .ref h1] (fun U => U.heap.size = sz ∧ va_P (dC, dI) vwCl [(h0, .inr (4, [.null, .null, .null, .int 0, .int 0, .int 0])), (h1, .inr (6, [f0, f1, .ref hI, f3, f4, f5, f6, f7, f8, f9, f10, f11, f12, f13, f14]))] U.heap ∧ va_K (dC, dI) vwCl [(cB, .byte), (cI, .int), (cJ, .long), (cZ, .boolean), (cS, .object "StreamQueries$Source"), (cO, .object "java/lang/Object")] U ∧ va_D (fun _ => True) [(h0, .inr (4, [.null, .null, .null, .int 0, .int 0, .int 0])), (h1, .inr (6, [f0, f1, .ref hI, f3, f4, f5, f6, f7, f8, f9, f10, f11, f12, f13, f14]))] ∧ zE K V fz (va_A (cs_t_X3_init cB cI cJ cZ cS cO h0 h1 hI f0 f1 f3 f4 f5 f6 f7 f8 f9 f10 f11 f12 f13 f14 K V fz) sz) U)
abbrev qc_t_X3_init (dC : Nat → ClassId) (dI : Nat → Nat → Nat) (cB cI cJ cZ cS cO : ClassId) (h0 : Nat) (h1 hI : Nat) (f0 f1 f3 f4 f5 f6 f7 f8 f9 f10 f11 f12 f13 f14 : Value) (K V : Nat → Nat) (fz : Value) (A : Nat → Prop) : Array Value → State → Outcome → State → Prop := va_Qv (fun (u : Unit) => match u with | _ => True) (fun (u : Unit) t_ => match u with | _ => ∃ (a1 a2 : Nat), va_P (dC, dI) vwCl [(h0, .inr (4, [.ref a1, .ref hI, .null, .int 0, .int 0, .int 0])), (h1, .inr (6, [f0, f1, .ref hI, f3, f4, f5, f6, f7, f8, f9, f10, f11, f12, f13, f14])), (a1, .inr (0, [.int 1, .ref a2, .int 1])), (a2, .inl (cO, 10, .inr (.inr (.inr (.inr (va_up (fun _ => none) 0 (some h1)))))))] t_.heap ∧ va_K (dC, dI) vwCl [(cB, .byte), (cI, .int), (cJ, .long), (cZ, .boolean), (cS, .object "StreamQueries$Source"), (cO, .object "java/lang/Object")] t_ ∧ va_D A [(h0, .inr (4, [.ref a1, .ref hI, .null, .int 0, .int 0, .int 0])), (h1, .inr (6, [f0, f1, .ref hI, f3, f4, f5, f6, f7, f8, f9, f10, f11, f12, f13, f14])), (a1, .inr (0, [.int 1, .ref a2, .int 1])), (a2, .inl (cO, 10, .inr (.inr (.inr (.inr (va_up (fun _ => none) 0 (some h1)))))))]) A
set_option maxHeartbeats 4000000 in
set_option maxRecDepth 100000 in
theorem t_X3_init (l : Launch) (dC : Nat → ClassId) (dI : Nat → Nat → Nat) (sz : Nat) (cB cI cJ cZ cS cO : ClassId) (h0 : Nat) (h1 hI : Nat) (f0 f1 f3 f4 f5 f6 f7 f8 f9 f10 f11 f12 f13 f14 : Value) (K V : Nat → Nat) (fz : Value)  : Met l yX3_init (wsOf yX3_init cX3_init 2 none) ({ frames := 6, cells := 2, slots := 13, locals := 360 }) (pc_t_X3_init dC dI sz cB cI cJ cZ cS cO h0 h1 hI f0 f1 f3 f4 f5 f6 f7 f8 f9 f10 f11 f12 f13 f14 K V fz) (qc_t_X3_init dC dI cB cI cJ cZ cS cO h0 h1 hI f0 f1 f3 f4 f5 f6 f7 f8 f9 f10 f11 f12 f13 f14 K V fz (va_A (cs_t_X3_init cB cI cJ cZ cS cO h0 h1 hI f0 f1 f3 f4 f5 f6 f7 f8 f9 f10 f11 f12 f13 f14 K V fz) sz)) 2 13 (va_A (cs_t_X3_init cB cI cJ cZ cS cO h0 h1 hI f0 f1 f3 f4 f5 f6 f7 f8 f9 f10 f11 f12 f13 f14 K V fz) sz) := by
  refine Met.ofW (cc := cX3_init) (maxL := 2) (ret := none) (by decide) rfl ?_
  intro p e s m args below meth c s₁ B hml hv
  obtain ⟨rfl, hsz, hP, hK, hD0, hZ⟩ := hv
  have hx := B.exec
  have hb := B.bytes
  have hr := B.returns
  have hts := atoms_spec (ws := (wsOf yX3_init cX3_init 2 none)) B.pre
  have hown : s.vm.findClass RX3 = some m.cls := findClass_of_methodNamed B.named
  have hlocks := B.notSynchronized
  have hin : meth.name = "<init>" := (name_of_methodNamed B.named B.method).1
  subst hsz
  have hD := hD0.self (sz := s.heap.size)
  generalize hAe : va_A (cs_t_X3_init cB cI cJ cZ cS cO h0 h1 hI f0 f1 f3 f4 f5 f6 f7 f8 f9 f10 f11 f12 f13 f14 K V fz) s.heap.size = A at hD hZ ⊢
  have hA : ∀ q : Nat, s.heap.size ≤ q → A q := fun q h => by rw [← hAe]; exact Or.inr h
  have hS : va_S A s.heap s.heap [] := va_S.rf
  have hP : va_P (dC, dI) vwCl [(h0, .inr (4, [.null, .null, .null, .int 0, .int 0, .int 0])), (h1, .inr (6, [f0, f1, .ref hI, f3, f4, f5, f6, f7, f8, f9, f10, f11, f12, f13, f14]))] s.heap := hP
  have hl := lv_entry ([.ref h0, .ref h1]) (n := 2) (Nat.le_of_ble_eq_true rfl)
  rw [lg_entry_eq]
  generalize (lg_sl ([.ref h0, .ref h1]) ++ List.replicate (2 - (lg_sl ([.ref h0, .ref h1])).length) Slot.unset).toArray = ls at hl ⊢
  have hl : lv_has ls 2 [(0, .ref h0), (1, .ref h1)] := hl
  refine lv_aload_n hx hb dX3_init_0 rfl (lv_at hl 0 rfl) ?_
  refine W.objInit hx hb hown (hts _ (List.mem_cons_of_mem _ kw_739)) (hts _ (List.mem_cons_of_mem _ kw_214)) (hts _ (List.mem_cons_of_mem _ kc_objectInit)) rfl (by rw [hml]; exact hl.1) rfl dX3_init_1 (Nat.le_of_ble_eq_true rfl) (Nat.le_of_ble_eq_true rfl) ?_
  refine W.eq (g2 := F0 m 4 ls []) rfl ?_
  refine lv_aload_n hx hb dX3_init_4 rfl (lv_at hl 0 rfl) ?_
  refine va_new (ci := 0) (fs := [.int 0, .null, .int 0]) (C := RJx4a65c) (T := TJx4a65c) (N := 3) hx hb hts (fun w h => List.mem_cons_of_mem _ (uG_Jx4a65c w h)) tyJx4a65c tyJx4a65c_ok hown (hts _ (List.mem_cons_of_mem _ kw_740)) (hts _ (List.mem_cons_of_mem _ kw_741)) (hts _ (List.mem_cons_of_mem _ kw_199)) hK hP hD hS hA rfl (by decide +kernel) (Nat.le_of_ble_eq_true rfl) (Nat.le_of_ble_eq_true rfl) dX3_init_5 (fun q1 H hP hD hS => ?_)
  have hP : va_P (dC, dI) vwCl [(h0, .inr (4, [.null, .null, .null, .int 0, .int 0, .int 0])), (h1, .inr (6, [f0, f1, .ref hI, f3, f4, f5, f6, f7, f8, f9, f10, f11, f12, f13, f14])), (q1, .inr (0, [.int 0, .null, .int 0]))] H := hP
  have hD : va_D A [(h0, .inr (4, [.null, .null, .null, .int 0, .int 0, .int 0])), (h1, .inr (6, [f0, f1, .ref hI, f3, f4, f5, f6, f7, f8, f9, f10, f11, f12, f13, f14])), (q1, .inr (0, [.int 0, .null, .int 0]))] := hD
  refine W.widen (k := 1) (n := 3) (Nat.le_of_ble_eq_true rfl) (Nat.le_of_ble_eq_true rfl) ?_
  refine lv_dup hx hb dX3_init_8 rfl ?_
  have hPc := hP.sub (ws' := [(q1, .inr (0, [.int 0, .null, .int 0]))]) [2] rfl
  have hDc := hD.sub (ws' := [(q1, .inr (0, [.int 0, .null, .int 0]))]) [2] (by decide) rfl
  have hKc := hK.sub (tys' := [(cB, .byte), (cI, .int), (cJ, .long), (cZ, .boolean), (cS, .object "StreamQueries$Source"), (cO, .object "java/lang/Object")]) [0, 1, 2, 3, 4, 5] rfl
  have hFc := va_free (wc := [(q1, .inr (0, [.int 0, .null, .int 0]))]) hD hS hA [2] rfl
  refine va_callv (va_runI (As := []) (rest := [.ref q1, .ref h0]) ⟨hx, hb, hml, hown, hts⟩ (t_AL_init l dC dI H.size cB cI cJ cZ cS cO q1 K V fz) (cwI 0 hts (gd_all (in_I kc_Jx4a65c_init_da8c8)) rfl rfl rfl (hts _ (List.mem_cons_of_mem _ kw_199)) (hts _ (List.mem_cons_of_mem _ kw_742)) (hts _ (List.mem_cons_of_mem _ kw_743)) rfl (by decide +kernel) ⟨Nat.le_of_ble_eq_true rfl, Nat.le_of_ble_eq_true rfl⟩) ⟨fun a U g mk q => by obtain ⟨q0, q1, qP, qK, qD, qZ⟩ := q; exact ⟨q0, q1, qP, va_K.moved (u := U) (U := U.calling g mk a) (Vm.Alike.refl U.vm) qK, qD, zE.same (u := U) (U := U.calling g mk a) rfl rfl qZ⟩, fun U hU hW => ⟨rfl, by rw [hU], by rw [hU]; exact hPc, va_K.moved hW.alike hKc, hDc.weaken (fun _ _ _ _ => trivial), zE.go hZ hS hU hW hFc⟩⟩ rfl rfl hl.1 rfl (lv_room (Nat.le_of_ble_eq_true rfl)) dX3_init_9 ⟨Nat.le_of_ble_eq_true rfl, Nat.le_of_ble_eq_true rfl⟩) hS (fun q _ h => hFc q h) hFc (fun u t_ H1 locs ht hvm hw hB hz1 hk1 hS => ?_)
  obtain ⟨hP1, hK1, hD1⟩ := hB
  rw [ht] at hP1
  have hK1 := va_K.moved hvm.symm hK1
  obtain ⟨hP, hD⟩ := va_join (wr := [(h0, .inr (4, [.null, .null, .null, .int 0, .int 0, .int 0])), (h1, .inr (6, [f0, f1, .ref hI, f3, f4, f5, f6, f7, f8, f9, f10, f11, f12, f13, f14]))]) (w1 := [(q1, .inr (0, [.int 0, .ref (V 42), .int 0]))]) hP hD [2] [0, 1] rfl rfl (by decide) (by decide) hk1 hFc hP1 hD1
  have hK := (hK.sub (tys' := []) [] rfl).app hK1
  generalize H1 = H at hP hS ⊢
  have hP : va_P (dC, dI) vwCl [(h0, .inr (4, [.null, .null, .null, .int 0, .int 0, .int 0])), (h1, .inr (6, [f0, f1, .ref hI, f3, f4, f5, f6, f7, f8, f9, f10, f11, f12, f13, f14])), (q1, .inr (0, [.int 0, .ref (V 42), .int 0]))] H := hP
  have hD : va_D A [(h0, .inr (4, [.null, .null, .null, .int 0, .int 0, .int 0])), (h1, .inr (6, [f0, f1, .ref hI, f3, f4, f5, f6, f7, f8, f9, f10, f11, f12, f13, f14])), (q1, .inr (0, [.int 0, .ref (V 42), .int 0]))] := hD
  have hK : va_K (dC, dI) vwCl [(cB, .byte), (cI, .int), (cJ, .long), (cZ, .boolean), (cS, .object "StreamQueries$Source"), (cO, .object "java/lang/Object")] s := hK
  refine va_putF (D := (dC, dI)) (ci := 4) (v := .ref q1) (ty := .object "java/util/ArrayList") (C := RX3) (T := TX3) (N := 6) hx hb hts (fun w h => List.mem_cons_of_mem _ (uG_X3 w h)) tyX3 tyX3_ok nmX3 hown hK hP hD hS 0 rfl rfl 0 (by decide) (hts _ (List.mem_cons_of_mem _ kw_823)) (fun _ h9 => h9) rfl hin rfl (by decide +kernel) rfl rfl (Nat.le_of_ble_eq_true rfl) dX3_init_12 (fun H locs hP hD hS => ?_)
  have hP : va_P (dC, dI) vwCl [(h0, .inr (4, [.ref q1, .null, .null, .int 0, .int 0, .int 0])), (h1, .inr (6, [f0, f1, .ref hI, f3, f4, f5, f6, f7, f8, f9, f10, f11, f12, f13, f14])), (q1, .inr (0, [.int 0, .ref (V 42), .int 0]))] H := hP
  have hD : va_D A [(h0, .inr (4, [.ref q1, .null, .null, .int 0, .int 0, .int 0])), (h1, .inr (6, [f0, f1, .ref hI, f3, f4, f5, f6, f7, f8, f9, f10, f11, f12, f13, f14])), (q1, .inr (0, [.int 0, .ref (V 42), .int 0]))] := hD
  refine lv_aload_n hx hb dX3_init_15 rfl (lv_at hl 0 rfl) ?_
  refine va_get (D := (dC, dI)) (ci := 4) (v := .ref q1) (C := RX3) (T := TX3) (N := 6) hx hb hts (fun w h => List.mem_cons_of_mem _ (uG_X3 w h)) hown hK hP 0 rfl rfl 0 (by decide) (hts _ (List.mem_cons_of_mem _ kw_823)) (fun _ h9 => h9) rfl dX3_init_16 ?_
  refine lv_aload_n hx hb dX3_init_19 rfl (lv_at hl 1 rfl) ?_
  have hPc := hP.sub (ws' := [(q1, .inr (0, [.int 0, .ref (V 42), .int 0])), (h1, .inr (6, [f0, f1, .ref hI, f3, f4, f5, f6, f7, f8, f9, f10, f11, f12, f13, f14]))]) [2, 1] rfl
  have hDc := hD.sub (ws' := [(q1, .inr (0, [.int 0, .ref (V 42), .int 0])), (h1, .inr (6, [f0, f1, .ref hI, f3, f4, f5, f6, f7, f8, f9, f10, f11, f12, f13, f14]))]) [2, 1] (by decide) rfl
  have hKc := hK.sub (tys' := [(cB, .byte), (cI, .int), (cJ, .long), (cZ, .boolean), (cS, .object "StreamQueries$Source"), (cO, .object "java/lang/Object")]) [0, 1, 2, 3, 4, 5] rfl
  have hFc := va_free (wc := [(q1, .inr (0, [.int 0, .ref (V 42), .int 0])), (h1, .inr (6, [f0, f1, .ref hI, f3, f4, f5, f6, f7, f8, f9, f10, f11, f12, f13, f14]))]) hD hS hA [2, 1] rfl
  refine va_calli (va_runV (As := [.ref h1]) (rest := []) ⟨hx, hb, hml, hown, hts⟩ (t_AL_add_0 l dC dI H.size cB cI cJ cZ cS cO q1 0 h1 [f0, f1, .ref hI, f3, f4, f5, f6, f7, f8, f9, f10, f11, f12, f13, f14] K V fz) (cwV 1 hts (gd_all (in_V kw_766 kw_767 kw_768 kw_199 kc_Jx4a65c_add_9ea2d)) rfl rfl rfl (by decide +kernel) ⟨Nat.le_of_ble_eq_true rfl, Nat.le_of_ble_eq_true rfl⟩) ⟨fun a U g mk q => by obtain ⟨q0, q1, qP, qK, qD, qZ⟩ := q; exact ⟨q0, q1, qP, va_K.moved (u := U) (U := U.calling g mk a) (Vm.Alike.refl U.vm) qK, qD, zE.same (u := U) (U := U.calling g mk a) rfl rfl qZ⟩, va_recv hKc hPc (ci := 0) (q0 := 0) rfl rfl, fun U hU hW => ⟨rfl, by rw [hU], by rw [hU]; exact hPc, va_K.moved hW.alike hKc, hDc.weaken (fun _ _ _ _ => trivial), zE.go hZ hS hU hW hFc⟩⟩ rfl rfl hl.1 rfl (lv_room (Nat.le_of_ble_eq_true rfl)) dX3_init_20 ⟨Nat.le_of_ble_eq_true rfl, Nat.le_of_ble_eq_true rfl⟩) hS (fun q _ h => hFc q h) hFc (fun r_3 u t_ H1 locs ht hvm hw hB hz1 hk1 hS => ?_)
  obtain ⟨a1, hP1, hK1, hD1⟩ := hB
  rw [ht] at hP1
  have hK1 := va_K.moved hvm.symm hK1
  obtain ⟨hP, hD⟩ := va_join (wr := [(h0, .inr (4, [.ref q1, .null, .null, .int 0, .int 0, .int 0]))]) (w1 := [(q1, .inr (0, [.int 1, .ref a1, .int 1])), (h1, .inr (6, [f0, f1, .ref hI, f3, f4, f5, f6, f7, f8, f9, f10, f11, f12, f13, f14])), (a1, .inl (cO, 10, .inr (.inr (.inr (.inr (va_up (fun _ => none) 0 (some h1)))))))]) hP hD [2, 1] [0] rfl rfl (by decide) (by decide) hk1 hFc hP1 hD1
  have hK := (hK.sub (tys' := []) [] rfl).app hK1
  generalize H1 = H at hP hS ⊢
  have hP : va_P (dC, dI) vwCl [(h0, .inr (4, [.ref q1, .null, .null, .int 0, .int 0, .int 0])), (q1, .inr (0, [.int 1, .ref a1, .int 1])), (h1, .inr (6, [f0, f1, .ref hI, f3, f4, f5, f6, f7, f8, f9, f10, f11, f12, f13, f14])), (a1, .inl (cO, 10, .inr (.inr (.inr (.inr (va_up (fun _ => none) 0 (some h1)))))))] H := hP
  have hD : va_D A [(h0, .inr (4, [.ref q1, .null, .null, .int 0, .int 0, .int 0])), (q1, .inr (0, [.int 1, .ref a1, .int 1])), (h1, .inr (6, [f0, f1, .ref hI, f3, f4, f5, f6, f7, f8, f9, f10, f11, f12, f13, f14])), (a1, .inl (cO, 10, .inr (.inr (.inr (.inr (va_up (fun _ => none) 0 (some h1)))))))] := hD
  have hK : va_K (dC, dI) vwCl [(cB, .byte), (cI, .int), (cJ, .long), (cZ, .boolean), (cS, .object "StreamQueries$Source"), (cO, .object "java/lang/Object")] s := hK
  have er_3 : r_3 = 1 := hw
  rw [er_3]
  refine lv_pop hx hb dX3_init_23 rfl ?_
  refine lv_aload_n hx hb dX3_init_24 rfl (lv_at hl 0 rfl) ?_
  refine lv_aload_n hx hb dX3_init_25 rfl (lv_at hl 1 rfl) ?_
  refine va_get (D := (dC, dI)) (ci := 6) (v := .ref hI) (C := RX5) (T := TX5) (N := 15) hx hb hts (fun w h => List.mem_cons_of_mem _ (uG_X5 w h)) hown hK hP 2 rfl rfl 2 (by decide) (hts _ (List.mem_cons_of_mem _ kw_661)) (fun _ h9 => h9) rfl dX3_init_26 ?_
  refine va_putF (D := (dC, dI)) (ci := 4) (v := .ref hI) (ty := .object "StreamQueries$Columns") (C := RX3) (T := TX3) (N := 6) hx hb hts (fun w h => List.mem_cons_of_mem _ (uG_X3 w h)) tyX3 tyX3_ok nmX3 hown hK hP hD hS 0 rfl rfl 1 (by decide) (hts _ (List.mem_cons_of_mem _ kw_827)) (fun _ h9 => h9) rfl hin rfl (by decide +kernel) rfl rfl (Nat.le_of_ble_eq_true rfl) dX3_init_29 (fun H locs hP hD hS => ?_)
  have hP : va_P (dC, dI) vwCl [(h0, .inr (4, [.ref q1, .ref hI, .null, .int 0, .int 0, .int 0])), (q1, .inr (0, [.int 1, .ref a1, .int 1])), (h1, .inr (6, [f0, f1, .ref hI, f3, f4, f5, f6, f7, f8, f9, f10, f11, f12, f13, f14])), (a1, .inl (cO, 10, .inr (.inr (.inr (.inr (va_up (fun _ => none) 0 (some h1)))))))] H := hP
  have hD : va_D A [(h0, .inr (4, [.ref q1, .ref hI, .null, .int 0, .int 0, .int 0])), (q1, .inr (0, [.int 1, .ref a1, .int 1])), (h1, .inr (6, [f0, f1, .ref hI, f3, f4, f5, f6, f7, f8, f9, f10, f11, f12, f13, f14])), (a1, .inl (cO, 10, .inr (.inr (.inr (.inr (va_up (fun _ => none) 0 (some h1)))))))] := hD
  have hP9 := hP.sub (ws' := [(h0, .inr (4, [.ref q1, .ref hI, .null, .int 0, .int 0, .int 0])), (h1, .inr (6, [f0, f1, .ref hI, f3, f4, f5, f6, f7, f8, f9, f10, f11, f12, f13, f14])), (q1, .inr (0, [.int 1, .ref a1, .int 1])), (a1, .inl (cO, 10, .inr (.inr (.inr (.inr (va_up (fun _ => none) 0 (some h1)))))))]) [0, 2, 1, 3] rfl
  have hD9 := hD.sub (ws' := [(h0, .inr (4, [.ref q1, .ref hI, .null, .int 0, .int 0, .int 0])), (h1, .inr (6, [f0, f1, .ref hI, f3, f4, f5, f6, f7, f8, f9, f10, f11, f12, f13, f14])), (q1, .inr (0, [.int 1, .ref a1, .int 1])), (a1, .inl (cO, 10, .inr (.inr (.inr (.inr (va_up (fun _ => none) 0 (some h1)))))))]) [0, 2, 1, 3] (by decide) rfl
  have hK9 := hK.sub (tys' := [(cB, .byte), (cI, .int), (cJ, .long), (cZ, .boolean), (cS, .object "StreamQueries$Source"), (cO, .object "java/lang/Object")]) [0, 1, 2, 3, 4, 5] rfl
  refine W.widen (k := 2) (n := 13) (Nat.le_of_ble_eq_true rfl) (Nat.le_of_ble_eq_true rfl) ?_
  exact W.vret hx hb hr (fun t_ ht hW => ⟨⟨(), rfl, trivial, q1, a1, by rw [ht]; exact hP9, va_K.moved hW.alike hK9, hD9⟩, hS.F ht⟩) hS.2.2 dX3_init_32
theorem dX9_init_0 : decode cX9_init 0 = .ok (.aload_n 0, 1) := by decide +kernel
theorem dX9_init_1 : decode cX9_init 1 = .ok (.invokespecial 3, 3) := by decide +kernel
theorem dX9_init_4 : decode cX9_init 4 = .ok (.aload_n 0, 1) := by decide +kernel
theorem dX9_init_5 : decode cX9_init 5 = .ok (.aload_n 1, 1) := by decide +kernel
theorem dX9_init_6 : decode cX9_init 6 = .ok (.putfield 9, 3) := by decide +kernel
theorem dX9_init_9 : decode cX9_init 9 = .ok (.aload_n 0, 1) := by decide +kernel
theorem dX9_init_10 : decode cX9_init 10 = .ok (.new 15, 3) := by decide +kernel
theorem dX9_init_13 : decode cX9_init 13 = .ok (.dup, 1) := by decide +kernel
theorem dX9_init_14 : decode cX9_init 14 = .ok (.bipush 120, 2) := by decide +kernel
theorem dX9_init_16 : decode cX9_init 16 = .ok (.iload_n 2, 1) := by decide +kernel
theorem dX9_init_17 : decode cX9_init 17 = .ok (.invokestatic 17, 3) := by decide +kernel
theorem dX9_init_20 : decode cX9_init 20 = .ok (.invokespecial 23, 3) := by decide +kernel
theorem dX9_init_23 : decode cX9_init 23 = .ok (.putfield 26, 3) := by decide +kernel
theorem dX9_init_26 : decode cX9_init 26 = .ok (.aload_n 0, 1) := by decide +kernel
theorem dX9_init_27 : decode cX9_init 27 = .ok (.iconst 3, 1) := by decide +kernel
theorem dX9_init_28 : decode cX9_init 28 = .ok (.anewarray 30, 3) := by decide +kernel
theorem dX9_init_31 : decode cX9_init 31 = .ok (.putfield 32, 3) := by decide +kernel
theorem dX9_init_34 : decode cX9_init 34 = .ok (.aload_n 0, 1) := by decide +kernel
theorem dX9_init_35 : decode cX9_init 35 = .ok (.new 36, 3) := by decide +kernel
theorem dX9_init_38 : decode cX9_init 38 = .ok (.dup, 1) := by decide +kernel
theorem dX9_init_39 : decode cX9_init 39 = .ok (.new 38, 3) := by decide +kernel
theorem dX9_init_42 : decode cX9_init 42 = .ok (.dup, 1) := by decide +kernel
theorem dX9_init_43 : decode cX9_init 43 = .ok (.invokespecial 40, 3) := by decide +kernel
theorem dX9_init_46 : decode cX9_init 46 = .ok (.invokespecial 41, 3) := by decide +kernel
theorem dX9_init_49 : decode cX9_init 49 = .ok (.putfield 44, 3) := by decide +kernel
theorem dX9_init_52 : decode cX9_init 52 = .ok (.return_, 1) := by decide +kernel
abbrev cs_t_X9_init (cB cI cJ cZ cS cO : ClassId) (h0 : Nat) (hQ n c1 : Nat) (K V : Nat → Nat) (fz : Value) : va_W := [(h0, .inr (10, [.int 0, .int 0, .null, .null, .int 0, .int 0, .null, .null, .int 0, .int 0, .null, .int 0]))]
abbrev pc_t_X9_init (dC : Nat → ClassId) (dI : Nat → Nat → Nat) (sz : Nat) (cB cI cJ cZ cS cO : ClassId) (h0 : Nat) (hQ n c1 : Nat) (K V : Nat → Nat) (fz : Value) : Array Value → State → Prop := va_Pc [.ref h0, .ref hQ, .int (nI n)] (fun U => U.heap.size = sz ∧ va_P (dC, dI) vwCl [(h0, .inr (10, [.int 0, .int 0, .null, .null, .int 0, .int 0, .null, .null, .int 0, .int 0, .null, .int 0]))] U.heap ∧ va_K (dC, dI) vwCl [(cB, .byte), (cI, .int), (cJ, .long), (cZ, .boolean), (cS, .object "StreamQueries$Source"), (cO, .object "java/lang/Object")] U ∧ va_D (fun _ => True) [(h0, .inr (10, [.int 0, .int 0, .null, .null, .int 0, .int 0, .null, .null, .int 0, .int 0, .null, .int 0]))] ∧ zE K V fz (va_A (cs_t_X9_init cB cI cJ cZ cS cO h0 hQ n c1 K V fz) sz) U)
abbrev qc_t_X9_init (dC : Nat → ClassId) (dI : Nat → Nat → Nat) (cB cI cJ cZ cS cO : ClassId) (h0 : Nat) (hQ n c1 : Nat) (K V : Nat → Nat) (fz : Value) (A : Nat → Prop) : Array Value → State → Outcome → State → Prop := va_Qv (fun (u : Unit) => match u with | _ => True) (fun (u : Unit) t_ => match u with | _ => ∃ (k0 k1 k2 k3 k4 k5 k6 k7 k8 k9 k10 k11 lv qy a1 a2 se b0 b1 b2 b3 b4 so e0 e1 e2 e3 e4 ag : Nat), va_P (dC, dI) vwCl [(h0, .inr (10, [.int 0, .int 0, .ref k0, .ref qy, .int 0, .int 0, .ref lv, .ref hQ, .int 0, .int 0, .null, .int 0])), (k0, .inr (2, [.int 0, .ref k1, .ref k2, .ref k3, .ref k4, .ref k5, .ref k6, .ref k7, .ref k8, .ref k9, .ref k10, .ref k11, .int 0])), (k1, .inl (cI, c1, .inl (fun _ => 0))), (k2, .inl (cI, c1, .inl (fun _ => 0))), (k3, .inl (cI, c1, .inl (fun _ => 0))), (k4, .inl (cI, c1, .inl (fun _ => 0))), (k5, .inl (cJ, c1, .inr (.inl (fun _ => 0)))), (k6, .inl (cJ, c1, .inr (.inl (fun _ => 0)))), (k7, .inl (cI, c1, .inl (fun _ => 0))), (k8, .inl (cI, c1, .inl (fun _ => 0))), (k9, .inl (cI, c1, .inl (fun _ => 0))), (k10, .inl (cJ, c1, .inr (.inl (fun _ => 0)))), (k11, .inl (cB, c1, .inl (fun _ => 0))), (lv, .inl (cS, 3, .inr (.inr (.inr (.inr (fun _ => none)))))), (qy, .inr (4, [.ref a1, .ref b0, .null, .int 0, .int 0, .int 0])), (a1, .inr (0, [.int 1, .ref a2, .int 1])), (a2, .inl (cO, 10, .inr (.inr (.inr (.inr (va_up (fun _ => none) 0 (some se))))))), (se, .inr (6, [.int 0, .int 0, .ref b0, .ref so, .int 0, .int (-1), .int 0, .int 0, .ref e0, .int (-1), .ref ag, .int 0, .int 10, .int 0, .int 0])), (b0, .inr (3, [.int 0, .ref b1, .ref b2, .ref b3, .ref b4])), (b1, .inl (cI, 8, .inl (fun _ => 0))), (b2, .inl (cJ, 8, .inr (.inl (fun _ => 0)))), (b3, .inl (cI, 8, .inl (fun _ => 0))), (b4, .inl (cI, 8, .inl (fun _ => 0))), (so, .inl (cS, 3, .inr (.inr (.inr (.inr (fun _ => none)))))), (e0, .inr (3, [.int 0, .ref e1, .ref e2, .ref e3, .ref e4])), (e1, .inl (cI, 8, .inl (fun _ => 0))), (e2, .inl (cJ, 8, .inr (.inl (fun _ => 0)))), (e3, .inl (cI, 8, .inl (fun _ => 0))), (e4, .inl (cI, 8, .inl (fun _ => 0))), (ag, .inl (cI, 12, .inl (fun _ => 0)))] t_.heap ∧ va_K (dC, dI) vwCl [(cB, .byte), (cI, .int), (cJ, .long), (cZ, .boolean), (cS, .object "StreamQueries$Source"), (cO, .object "java/lang/Object")] t_ ∧ va_D A [(h0, .inr (10, [.int 0, .int 0, .ref k0, .ref qy, .int 0, .int 0, .ref lv, .ref hQ, .int 0, .int 0, .null, .int 0])), (k0, .inr (2, [.int 0, .ref k1, .ref k2, .ref k3, .ref k4, .ref k5, .ref k6, .ref k7, .ref k8, .ref k9, .ref k10, .ref k11, .int 0])), (k1, .inl (cI, c1, .inl (fun _ => 0))), (k2, .inl (cI, c1, .inl (fun _ => 0))), (k3, .inl (cI, c1, .inl (fun _ => 0))), (k4, .inl (cI, c1, .inl (fun _ => 0))), (k5, .inl (cJ, c1, .inr (.inl (fun _ => 0)))), (k6, .inl (cJ, c1, .inr (.inl (fun _ => 0)))), (k7, .inl (cI, c1, .inl (fun _ => 0))), (k8, .inl (cI, c1, .inl (fun _ => 0))), (k9, .inl (cI, c1, .inl (fun _ => 0))), (k10, .inl (cJ, c1, .inr (.inl (fun _ => 0)))), (k11, .inl (cB, c1, .inl (fun _ => 0))), (lv, .inl (cS, 3, .inr (.inr (.inr (.inr (fun _ => none)))))), (qy, .inr (4, [.ref a1, .ref b0, .null, .int 0, .int 0, .int 0])), (a1, .inr (0, [.int 1, .ref a2, .int 1])), (a2, .inl (cO, 10, .inr (.inr (.inr (.inr (va_up (fun _ => none) 0 (some se))))))), (se, .inr (6, [.int 0, .int 0, .ref b0, .ref so, .int 0, .int (-1), .int 0, .int 0, .ref e0, .int (-1), .ref ag, .int 0, .int 10, .int 0, .int 0])), (b0, .inr (3, [.int 0, .ref b1, .ref b2, .ref b3, .ref b4])), (b1, .inl (cI, 8, .inl (fun _ => 0))), (b2, .inl (cJ, 8, .inr (.inl (fun _ => 0)))), (b3, .inl (cI, 8, .inl (fun _ => 0))), (b4, .inl (cI, 8, .inl (fun _ => 0))), (so, .inl (cS, 3, .inr (.inr (.inr (.inr (fun _ => none)))))), (e0, .inr (3, [.int 0, .ref e1, .ref e2, .ref e3, .ref e4])), (e1, .inl (cI, 8, .inl (fun _ => 0))), (e2, .inl (cJ, 8, .inr (.inl (fun _ => 0)))), (e3, .inl (cI, 8, .inl (fun _ => 0))), (e4, .inl (cI, 8, .inl (fun _ => 0))), (ag, .inl (cI, 12, .inl (fun _ => 0)))]) A
set_option maxHeartbeats 4000000 in
set_option maxRecDepth 100000 in
theorem t_X9_init (l : Launch) (dC : Nat → ClassId) (dI : Nat → Nat → Nat) (sz : Nat) (cB cI cJ cZ cS cO : ClassId) (h0 : Nat) (hQ n c1 : Nat) (K V : Nat → Nat) (fz : Value) (hn : n ≤ 2000) (hc1 : c1 = if n < 120 then n else 120) : Met l yX9_init (wsOf yX9_init cX9_init 3 none) ({ frames := 7, cells := 29, slots := 11 * c1 + 139, locals := 420 }) (pc_t_X9_init dC dI sz cB cI cJ cZ cS cO h0 hQ n c1 K V fz) (qc_t_X9_init dC dI cB cI cJ cZ cS cO h0 hQ n c1 K V fz (va_A (cs_t_X9_init cB cI cJ cZ cS cO h0 hQ n c1 K V fz) sz)) 29 (11 * c1 + 139) (va_A (cs_t_X9_init cB cI cJ cZ cS cO h0 hQ n c1 K V fz) sz) := by
  refine Met.ofW (cc := cX9_init) (maxL := 3) (ret := none) (by decide) rfl ?_
  intro p e s m args below meth c s₁ B hml hv
  obtain ⟨rfl, hsz, hP, hK, hD0, hZ⟩ := hv
  have hx := B.exec
  have hb := B.bytes
  have hr := B.returns
  have hts := atoms_spec (ws := (wsOf yX9_init cX9_init 3 none)) B.pre
  have hown : s.vm.findClass RX9 = some m.cls := findClass_of_methodNamed B.named
  have hlocks := B.notSynchronized
  have hin : meth.name = "<init>" := (name_of_methodNamed B.named B.method).1
  subst hsz
  have hD := hD0.self (sz := s.heap.size)
  generalize hAe : va_A (cs_t_X9_init cB cI cJ cZ cS cO h0 hQ n c1 K V fz) s.heap.size = A at hD hZ ⊢
  have hA : ∀ q : Nat, s.heap.size ≤ q → A q := fun q h => by rw [← hAe]; exact Or.inr h
  have hS : va_S A s.heap s.heap [] := va_S.rf
  have hP : va_P (dC, dI) vwCl [(h0, .inr (10, [.int 0, .int 0, .null, .null, .int 0, .int 0, .null, .null, .int 0, .int 0, .null, .int 0]))] s.heap := hP
  have hl := lv_entry ([.ref h0, .ref hQ, .int (nI n)]) (n := 3) (Nat.le_of_ble_eq_true rfl)
  rw [lg_entry_eq]
  generalize (lg_sl ([.ref h0, .ref hQ, .int (nI n)]) ++ List.replicate (3 - (lg_sl ([.ref h0, .ref hQ, .int (nI n)])).length) Slot.unset).toArray = ls at hl ⊢
  have hl : lv_has ls 3 [(0, .ref h0), (1, .ref hQ), (2, .int (nI n))] := hl
  have hc12 : c1 ≤ 120 := by rw [hc1]; split <;> omega
  refine lv_aload_n hx hb dX9_init_0 rfl (lv_at hl 0 rfl) ?_
  refine W.objInit hx hb hown (hts _ (List.mem_cons_of_mem _ kw_608)) (hts _ (List.mem_cons_of_mem _ kw_214)) (hts _ (List.mem_cons_of_mem _ kc_objectInit)) rfl (by rw [hml]; exact hl.1) rfl dX9_init_1 (Nat.le_of_ble_eq_true rfl) (Nat.le_of_ble_eq_true rfl) ?_
  refine W.eq (g2 := F0 m 4 ls []) rfl ?_
  refine lv_aload_n hx hb dX9_init_4 rfl (lv_at hl 0 rfl) ?_
  refine lv_aload_n hx hb dX9_init_5 rfl (lv_at hl 1 rfl) ?_
  refine va_putF (D := (dC, dI)) (ci := 10) (v := .ref hQ) (ty := .object "StreamQueries$Tokens") (C := RX9) (T := TX9) (N := 12) hx hb hts (fun w h => List.mem_cons_of_mem _ (uG_X9 w h)) tyX9 tyX9_ok nmX9 hown hK hP hD hS 0 rfl rfl 7 (by decide) (hts _ (List.mem_cons_of_mem _ kw_869)) (fun _ h9 => h9) rfl hin rfl (by decide +kernel) rfl rfl (Nat.le_of_ble_eq_true rfl) dX9_init_6 (fun H locs hP hD hS => ?_)
  have hP : va_P (dC, dI) vwCl [(h0, .inr (10, [.int 0, .int 0, .null, .null, .int 0, .int 0, .null, .ref hQ, .int 0, .int 0, .null, .int 0]))] H := hP
  have hD : va_D A [(h0, .inr (10, [.int 0, .int 0, .null, .null, .int 0, .int 0, .null, .ref hQ, .int 0, .int 0, .null, .int 0]))] := hD
  refine lv_aload_n hx hb dX9_init_9 rfl (lv_at hl 0 rfl) ?_
  refine va_new (ci := 2) (fs := [.int 0, .null, .null, .null, .null, .null, .null, .null, .null, .null, .null, .null, .int 0]) (C := RX1) (T := TX1) (N := 13) hx hb hts (fun w h => List.mem_cons_of_mem _ (uG_X1 w h)) tyX1 tyX1_ok hown (hts _ (List.mem_cons_of_mem _ kw_609)) (hts _ (List.mem_cons_of_mem _ kw_363)) (hts _ (List.mem_cons_of_mem _ kw_189)) hK hP hD hS hA rfl (by decide +kernel) (Nat.le_of_ble_eq_true rfl) (by show 0 + 13 ≤ 11 * c1 + 139; omega) dX9_init_10 (fun q1 H hP hD hS => ?_)
  have hP : va_P (dC, dI) vwCl [(h0, .inr (10, [.int 0, .int 0, .null, .null, .int 0, .int 0, .null, .ref hQ, .int 0, .int 0, .null, .int 0])), (q1, .inr (2, [.int 0, .null, .null, .null, .null, .null, .null, .null, .null, .null, .null, .null, .int 0]))] H := hP
  have hD : va_D A [(h0, .inr (10, [.int 0, .int 0, .null, .null, .int 0, .int 0, .null, .ref hQ, .int 0, .int 0, .null, .int 0])), (q1, .inr (2, [.int 0, .null, .null, .null, .null, .null, .null, .null, .null, .null, .null, .null, .int 0]))] := hD
  refine W.widen (k := 1) (n := 13) (Nat.le_of_ble_eq_true rfl) (Nat.le_of_ble_eq_true rfl) ?_
  refine lv_dup hx hb dX9_init_13 rfl ?_
  refine lv_bipush (v := 120) hx hb dX9_init_14 (by decide) ?_
  refine lv_iload_n hx hb dX9_init_16 rfl (lv_at hl 2 rfl) ?_
  refine va_mmin hx hb (hml.trans hl.1.symm) hown (hts _ (List.mem_cons_of_mem _ kw_610)) (hts _ (List.mem_cons_of_mem _ kw_506)) (hts _ (List.mem_cons_of_mem _ kw_190)) (hts _ (List.mem_cons_of_mem _ kc_min)) (Nat.le_of_ble_eq_true rfl) (Nat.le_of_ble_eq_true rfl) (Nat.le_of_ble_eq_true rfl) (by show 13 ≤ 11 * c1 + 139; omega) dX9_init_17 ?_
  refine lv_topi (fun x_2 ex_2 => ?_)
  have ex_2 : x_2 = nI c1 := by exact ex_2.trans (mn120 hn hc1)
  subst ex_2
  have hPc := hP.sub (ws' := [(q1, .inr (2, [.int 0, .null, .null, .null, .null, .null, .null, .null, .null, .null, .null, .null, .int 0]))]) [1] rfl
  have hDc := hD.sub (ws' := [(q1, .inr (2, [.int 0, .null, .null, .null, .null, .null, .null, .null, .null, .null, .null, .null, .int 0]))]) [1] (by decide) rfl
  have hKc := hK.sub (tys' := [(cB, .byte), (cI, .int), (cJ, .long), (cZ, .boolean)]) [0, 1, 2, 3] rfl
  have hFc := va_free (wc := [(q1, .inr (2, [.int 0, .null, .null, .null, .null, .null, .null, .null, .null, .null, .null, .null, .int 0]))]) hD hS hA [1] rfl
  refine va_callv (va_runI (As := [.int (nI c1)]) (rest := [.ref q1, .ref h0]) ⟨hx, hb, hml, hown, hts⟩ (t_X1_init l dC dI H.size cB cI cJ cZ q1 c1 hc12) (cwI 1 hts (gd_all (in_I kc_X1_init)) rfl rfl rfl (hts _ (List.mem_cons_of_mem _ kw_189)) (hts _ (List.mem_cons_of_mem _ kw_611)) (hts _ (List.mem_cons_of_mem _ kw_365)) rfl (by decide +kernel) ⟨Nat.le_of_ble_eq_true rfl, Nat.le_of_ble_eq_true rfl⟩) ⟨fun a U g mk q => by obtain ⟨q0, q1, qP, qK, qD⟩ := q; exact ⟨q0, q1, qP, va_K.moved (u := U) (U := U.calling g mk a) (Vm.Alike.refl U.vm) qK, qD⟩, fun U hU hW => ⟨rfl, by rw [hU], by rw [hU]; exact hPc, va_K.moved hW.alike hKc, hDc.weaken (fun _ _ _ _ => trivial)⟩⟩ rfl rfl hl.1 rfl (lv_room (Nat.le_of_ble_eq_true rfl)) dX9_init_20 ⟨Nat.le_of_ble_eq_true rfl, by show 13 + (11 * c1) ≤ 11 * c1 + 139; omega⟩) hS (fun q _ h => hFc q h) hFc (fun u t_ H1 locs ht hvm hw hB hz1 hk1 hS => ?_)
  obtain ⟨k3_1, k3_2, k3_3, k3_4, k3_5, k3_6, k3_7, k3_8, k3_9, k3_10, k3_11, hP1, hK1, hD1⟩ := hB
  rw [ht] at hP1
  have hK1 := va_K.moved hvm.symm hK1
  obtain ⟨hP, hD⟩ := va_join (wr := [(h0, .inr (10, [.int 0, .int 0, .null, .null, .int 0, .int 0, .null, .ref hQ, .int 0, .int 0, .null, .int 0]))]) (w1 := [(q1, .inr (2, [.int 0, .ref k3_1, .ref k3_2, .ref k3_3, .ref k3_4, .ref k3_5, .ref k3_6, .ref k3_7, .ref k3_8, .ref k3_9, .ref k3_10, .ref k3_11, .int 0])), (k3_1, .inl (cI, c1, .inl (fun _ => 0))), (k3_2, .inl (cI, c1, .inl (fun _ => 0))), (k3_3, .inl (cI, c1, .inl (fun _ => 0))), (k3_4, .inl (cI, c1, .inl (fun _ => 0))), (k3_5, .inl (cJ, c1, .inr (.inl (fun _ => 0)))), (k3_6, .inl (cJ, c1, .inr (.inl (fun _ => 0)))), (k3_7, .inl (cI, c1, .inl (fun _ => 0))), (k3_8, .inl (cI, c1, .inl (fun _ => 0))), (k3_9, .inl (cI, c1, .inl (fun _ => 0))), (k3_10, .inl (cJ, c1, .inr (.inl (fun _ => 0)))), (k3_11, .inl (cB, c1, .inl (fun _ => 0)))]) hP hD [1] [0] rfl rfl (by decide) (by decide) hk1 hFc hP1 hD1
  have hK := (hK.sub (tys' := [(cS, .object "StreamQueries$Source"), (cO, .object "java/lang/Object")]) [4, 5] rfl).app hK1
  generalize H1 = H at hP hS ⊢
  have hP : va_P (dC, dI) vwCl [(h0, .inr (10, [.int 0, .int 0, .null, .null, .int 0, .int 0, .null, .ref hQ, .int 0, .int 0, .null, .int 0])), (q1, .inr (2, [.int 0, .ref k3_1, .ref k3_2, .ref k3_3, .ref k3_4, .ref k3_5, .ref k3_6, .ref k3_7, .ref k3_8, .ref k3_9, .ref k3_10, .ref k3_11, .int 0])), (k3_1, .inl (cI, c1, .inl (fun _ => 0))), (k3_2, .inl (cI, c1, .inl (fun _ => 0))), (k3_3, .inl (cI, c1, .inl (fun _ => 0))), (k3_4, .inl (cI, c1, .inl (fun _ => 0))), (k3_5, .inl (cJ, c1, .inr (.inl (fun _ => 0)))), (k3_6, .inl (cJ, c1, .inr (.inl (fun _ => 0)))), (k3_7, .inl (cI, c1, .inl (fun _ => 0))), (k3_8, .inl (cI, c1, .inl (fun _ => 0))), (k3_9, .inl (cI, c1, .inl (fun _ => 0))), (k3_10, .inl (cJ, c1, .inr (.inl (fun _ => 0)))), (k3_11, .inl (cB, c1, .inl (fun _ => 0)))] H := hP
  have hD : va_D A [(h0, .inr (10, [.int 0, .int 0, .null, .null, .int 0, .int 0, .null, .ref hQ, .int 0, .int 0, .null, .int 0])), (q1, .inr (2, [.int 0, .ref k3_1, .ref k3_2, .ref k3_3, .ref k3_4, .ref k3_5, .ref k3_6, .ref k3_7, .ref k3_8, .ref k3_9, .ref k3_10, .ref k3_11, .int 0])), (k3_1, .inl (cI, c1, .inl (fun _ => 0))), (k3_2, .inl (cI, c1, .inl (fun _ => 0))), (k3_3, .inl (cI, c1, .inl (fun _ => 0))), (k3_4, .inl (cI, c1, .inl (fun _ => 0))), (k3_5, .inl (cJ, c1, .inr (.inl (fun _ => 0)))), (k3_6, .inl (cJ, c1, .inr (.inl (fun _ => 0)))), (k3_7, .inl (cI, c1, .inl (fun _ => 0))), (k3_8, .inl (cI, c1, .inl (fun _ => 0))), (k3_9, .inl (cI, c1, .inl (fun _ => 0))), (k3_10, .inl (cJ, c1, .inr (.inl (fun _ => 0)))), (k3_11, .inl (cB, c1, .inl (fun _ => 0)))] := hD
  have hK : va_K (dC, dI) vwCl [(cS, .object "StreamQueries$Source"), (cO, .object "java/lang/Object"), (cB, .byte), (cI, .int), (cJ, .long), (cZ, .boolean)] s := hK
  refine va_putF (D := (dC, dI)) (ci := 10) (v := .ref q1) (ty := .object "StreamQueries$Code") (C := RX9) (T := TX9) (N := 12) hx hb hts (fun w h => List.mem_cons_of_mem _ (uG_X9 w h)) tyX9 tyX9_ok nmX9 hown hK hP hD hS 0 rfl rfl 2 (by decide) (hts _ (List.mem_cons_of_mem _ kw_860)) (fun _ h9 => h9) rfl hin rfl (by decide +kernel) rfl rfl (Nat.le_of_ble_eq_true rfl) dX9_init_23 (fun H locs hP hD hS => ?_)
  have hP : va_P (dC, dI) vwCl [(h0, .inr (10, [.int 0, .int 0, .ref q1, .null, .int 0, .int 0, .null, .ref hQ, .int 0, .int 0, .null, .int 0])), (q1, .inr (2, [.int 0, .ref k3_1, .ref k3_2, .ref k3_3, .ref k3_4, .ref k3_5, .ref k3_6, .ref k3_7, .ref k3_8, .ref k3_9, .ref k3_10, .ref k3_11, .int 0])), (k3_1, .inl (cI, c1, .inl (fun _ => 0))), (k3_2, .inl (cI, c1, .inl (fun _ => 0))), (k3_3, .inl (cI, c1, .inl (fun _ => 0))), (k3_4, .inl (cI, c1, .inl (fun _ => 0))), (k3_5, .inl (cJ, c1, .inr (.inl (fun _ => 0)))), (k3_6, .inl (cJ, c1, .inr (.inl (fun _ => 0)))), (k3_7, .inl (cI, c1, .inl (fun _ => 0))), (k3_8, .inl (cI, c1, .inl (fun _ => 0))), (k3_9, .inl (cI, c1, .inl (fun _ => 0))), (k3_10, .inl (cJ, c1, .inr (.inl (fun _ => 0)))), (k3_11, .inl (cB, c1, .inl (fun _ => 0)))] H := hP
  have hD : va_D A [(h0, .inr (10, [.int 0, .int 0, .ref q1, .null, .int 0, .int 0, .null, .ref hQ, .int 0, .int 0, .null, .int 0])), (q1, .inr (2, [.int 0, .ref k3_1, .ref k3_2, .ref k3_3, .ref k3_4, .ref k3_5, .ref k3_6, .ref k3_7, .ref k3_8, .ref k3_9, .ref k3_10, .ref k3_11, .int 0])), (k3_1, .inl (cI, c1, .inl (fun _ => 0))), (k3_2, .inl (cI, c1, .inl (fun _ => 0))), (k3_3, .inl (cI, c1, .inl (fun _ => 0))), (k3_4, .inl (cI, c1, .inl (fun _ => 0))), (k3_5, .inl (cJ, c1, .inr (.inl (fun _ => 0)))), (k3_6, .inl (cJ, c1, .inr (.inl (fun _ => 0)))), (k3_7, .inl (cI, c1, .inl (fun _ => 0))), (k3_8, .inl (cI, c1, .inl (fun _ => 0))), (k3_9, .inl (cI, c1, .inl (fun _ => 0))), (k3_10, .inl (cJ, c1, .inr (.inl (fun _ => 0)))), (k3_11, .inl (cB, c1, .inl (fun _ => 0)))] := hD
  refine lv_aload_n hx hb dX9_init_26 rfl (lv_at hl 0 rfl) ?_
  refine lv_iconst (v := 3) hx hb dX9_init_27 (by decide) ?_
  refine va_newq (C := "StreamQueries$Source") hx hb hown (hts _ (List.mem_cons_of_mem _ kw_612)) hZ.aoS hK hP hD hS hA (n := 3) (N' := 3) (by decide) (by decide) (by decide) (Nat.le_of_ble_eq_true rfl) (by show 13 + (11 * c1) + 3 ≤ 11 * c1 + 139; omega) dX9_init_28 (fun q4 cA4 H hK4 hP hD hS => ?_)
  rw [va_sameO hK4 6 0 rfl rfl] at hP hD
  have hP : va_P (dC, dI) vwCl [(h0, .inr (10, [.int 0, .int 0, .ref q1, .null, .int 0, .int 0, .null, .ref hQ, .int 0, .int 0, .null, .int 0])), (q1, .inr (2, [.int 0, .ref k3_1, .ref k3_2, .ref k3_3, .ref k3_4, .ref k3_5, .ref k3_6, .ref k3_7, .ref k3_8, .ref k3_9, .ref k3_10, .ref k3_11, .int 0])), (k3_1, .inl (cI, c1, .inl (fun _ => 0))), (k3_2, .inl (cI, c1, .inl (fun _ => 0))), (k3_3, .inl (cI, c1, .inl (fun _ => 0))), (k3_4, .inl (cI, c1, .inl (fun _ => 0))), (k3_5, .inl (cJ, c1, .inr (.inl (fun _ => 0)))), (k3_6, .inl (cJ, c1, .inr (.inl (fun _ => 0)))), (k3_7, .inl (cI, c1, .inl (fun _ => 0))), (k3_8, .inl (cI, c1, .inl (fun _ => 0))), (k3_9, .inl (cI, c1, .inl (fun _ => 0))), (k3_10, .inl (cJ, c1, .inr (.inl (fun _ => 0)))), (k3_11, .inl (cB, c1, .inl (fun _ => 0))), (q4, .inl (cS, 3, .inr (.inr (.inr (.inr (fun _ => none))))))] H := hP
  have hD : va_D A [(h0, .inr (10, [.int 0, .int 0, .ref q1, .null, .int 0, .int 0, .null, .ref hQ, .int 0, .int 0, .null, .int 0])), (q1, .inr (2, [.int 0, .ref k3_1, .ref k3_2, .ref k3_3, .ref k3_4, .ref k3_5, .ref k3_6, .ref k3_7, .ref k3_8, .ref k3_9, .ref k3_10, .ref k3_11, .int 0])), (k3_1, .inl (cI, c1, .inl (fun _ => 0))), (k3_2, .inl (cI, c1, .inl (fun _ => 0))), (k3_3, .inl (cI, c1, .inl (fun _ => 0))), (k3_4, .inl (cI, c1, .inl (fun _ => 0))), (k3_5, .inl (cJ, c1, .inr (.inl (fun _ => 0)))), (k3_6, .inl (cJ, c1, .inr (.inl (fun _ => 0)))), (k3_7, .inl (cI, c1, .inl (fun _ => 0))), (k3_8, .inl (cI, c1, .inl (fun _ => 0))), (k3_9, .inl (cI, c1, .inl (fun _ => 0))), (k3_10, .inl (cJ, c1, .inr (.inl (fun _ => 0)))), (k3_11, .inl (cB, c1, .inl (fun _ => 0))), (q4, .inl (cS, 3, .inr (.inr (.inr (.inr (fun _ => none))))))] := hD
  refine W.widen (k := 13) (n := 13 + (11 * c1) + 3) (by omega) (by omega) ?_
  refine va_putF (D := (dC, dI)) (ci := 10) (v := .ref q4) (ty := .array (.object "StreamQueries$Source")) (C := RX9) (T := TX9) (N := 12) hx hb hts (fun w h => List.mem_cons_of_mem _ (uG_X9 w h)) tyX9 tyX9_ok nmX9 hown hK hP hD hS 0 rfl rfl 6 (by decide) (hts _ (List.mem_cons_of_mem _ kw_868)) (fun _ h9 => h9) rfl hin rfl (by decide +kernel) rfl rfl (Nat.le_of_ble_eq_true rfl) dX9_init_31 (fun H locs hP hD hS => ?_)
  have hP : va_P (dC, dI) vwCl [(h0, .inr (10, [.int 0, .int 0, .ref q1, .null, .int 0, .int 0, .ref q4, .ref hQ, .int 0, .int 0, .null, .int 0])), (q1, .inr (2, [.int 0, .ref k3_1, .ref k3_2, .ref k3_3, .ref k3_4, .ref k3_5, .ref k3_6, .ref k3_7, .ref k3_8, .ref k3_9, .ref k3_10, .ref k3_11, .int 0])), (k3_1, .inl (cI, c1, .inl (fun _ => 0))), (k3_2, .inl (cI, c1, .inl (fun _ => 0))), (k3_3, .inl (cI, c1, .inl (fun _ => 0))), (k3_4, .inl (cI, c1, .inl (fun _ => 0))), (k3_5, .inl (cJ, c1, .inr (.inl (fun _ => 0)))), (k3_6, .inl (cJ, c1, .inr (.inl (fun _ => 0)))), (k3_7, .inl (cI, c1, .inl (fun _ => 0))), (k3_8, .inl (cI, c1, .inl (fun _ => 0))), (k3_9, .inl (cI, c1, .inl (fun _ => 0))), (k3_10, .inl (cJ, c1, .inr (.inl (fun _ => 0)))), (k3_11, .inl (cB, c1, .inl (fun _ => 0))), (q4, .inl (cS, 3, .inr (.inr (.inr (.inr (fun _ => none))))))] H := hP
  have hD : va_D A [(h0, .inr (10, [.int 0, .int 0, .ref q1, .null, .int 0, .int 0, .ref q4, .ref hQ, .int 0, .int 0, .null, .int 0])), (q1, .inr (2, [.int 0, .ref k3_1, .ref k3_2, .ref k3_3, .ref k3_4, .ref k3_5, .ref k3_6, .ref k3_7, .ref k3_8, .ref k3_9, .ref k3_10, .ref k3_11, .int 0])), (k3_1, .inl (cI, c1, .inl (fun _ => 0))), (k3_2, .inl (cI, c1, .inl (fun _ => 0))), (k3_3, .inl (cI, c1, .inl (fun _ => 0))), (k3_4, .inl (cI, c1, .inl (fun _ => 0))), (k3_5, .inl (cJ, c1, .inr (.inl (fun _ => 0)))), (k3_6, .inl (cJ, c1, .inr (.inl (fun _ => 0)))), (k3_7, .inl (cI, c1, .inl (fun _ => 0))), (k3_8, .inl (cI, c1, .inl (fun _ => 0))), (k3_9, .inl (cI, c1, .inl (fun _ => 0))), (k3_10, .inl (cJ, c1, .inr (.inl (fun _ => 0)))), (k3_11, .inl (cB, c1, .inl (fun _ => 0))), (q4, .inl (cS, 3, .inr (.inr (.inr (.inr (fun _ => none))))))] := hD
  refine lv_aload_n hx hb dX9_init_34 rfl (lv_at hl 0 rfl) ?_
  refine va_new (ci := 4) (fs := [.null, .null, .null, .int 0, .int 0, .int 0]) (C := RX3) (T := TX3) (N := 6) hx hb hts (fun w h => List.mem_cons_of_mem _ (uG_X3 w h)) tyX3 tyX3_ok hown (hts _ (List.mem_cons_of_mem _ kw_614)) (hts _ (List.mem_cons_of_mem _ kw_615)) (hts _ (List.mem_cons_of_mem _ kw_194)) hK hP hD hS hA rfl (by decide +kernel) (Nat.le_of_ble_eq_true rfl) (by show 13 + (11 * c1) + 3 + 6 ≤ 11 * c1 + 139; omega) dX9_init_35 (fun q5 H hP hD hS => ?_)
  have hP : va_P (dC, dI) vwCl [(h0, .inr (10, [.int 0, .int 0, .ref q1, .null, .int 0, .int 0, .ref q4, .ref hQ, .int 0, .int 0, .null, .int 0])), (q1, .inr (2, [.int 0, .ref k3_1, .ref k3_2, .ref k3_3, .ref k3_4, .ref k3_5, .ref k3_6, .ref k3_7, .ref k3_8, .ref k3_9, .ref k3_10, .ref k3_11, .int 0])), (k3_1, .inl (cI, c1, .inl (fun _ => 0))), (k3_2, .inl (cI, c1, .inl (fun _ => 0))), (k3_3, .inl (cI, c1, .inl (fun _ => 0))), (k3_4, .inl (cI, c1, .inl (fun _ => 0))), (k3_5, .inl (cJ, c1, .inr (.inl (fun _ => 0)))), (k3_6, .inl (cJ, c1, .inr (.inl (fun _ => 0)))), (k3_7, .inl (cI, c1, .inl (fun _ => 0))), (k3_8, .inl (cI, c1, .inl (fun _ => 0))), (k3_9, .inl (cI, c1, .inl (fun _ => 0))), (k3_10, .inl (cJ, c1, .inr (.inl (fun _ => 0)))), (k3_11, .inl (cB, c1, .inl (fun _ => 0))), (q4, .inl (cS, 3, .inr (.inr (.inr (.inr (fun _ => none)))))), (q5, .inr (4, [.null, .null, .null, .int 0, .int 0, .int 0]))] H := hP
  have hD : va_D A [(h0, .inr (10, [.int 0, .int 0, .ref q1, .null, .int 0, .int 0, .ref q4, .ref hQ, .int 0, .int 0, .null, .int 0])), (q1, .inr (2, [.int 0, .ref k3_1, .ref k3_2, .ref k3_3, .ref k3_4, .ref k3_5, .ref k3_6, .ref k3_7, .ref k3_8, .ref k3_9, .ref k3_10, .ref k3_11, .int 0])), (k3_1, .inl (cI, c1, .inl (fun _ => 0))), (k3_2, .inl (cI, c1, .inl (fun _ => 0))), (k3_3, .inl (cI, c1, .inl (fun _ => 0))), (k3_4, .inl (cI, c1, .inl (fun _ => 0))), (k3_5, .inl (cJ, c1, .inr (.inl (fun _ => 0)))), (k3_6, .inl (cJ, c1, .inr (.inl (fun _ => 0)))), (k3_7, .inl (cI, c1, .inl (fun _ => 0))), (k3_8, .inl (cI, c1, .inl (fun _ => 0))), (k3_9, .inl (cI, c1, .inl (fun _ => 0))), (k3_10, .inl (cJ, c1, .inr (.inl (fun _ => 0)))), (k3_11, .inl (cB, c1, .inl (fun _ => 0))), (q4, .inl (cS, 3, .inr (.inr (.inr (.inr (fun _ => none)))))), (q5, .inr (4, [.null, .null, .null, .int 0, .int 0, .int 0]))] := hD
  refine W.widen (k := 14) (n := 13 + (11 * c1) + 3 + 6) (by omega) (by omega) ?_
  refine lv_dup hx hb dX9_init_38 rfl ?_
  refine va_new (ci := 6) (fs := [.int 0, .int 0, .null, .null, .int 0, .int 0, .int 0, .int 0, .null, .int 0, .null, .int 0, .int 0, .int 0, .int 0]) (C := RX5) (T := TX5) (N := 15) hx hb hts (fun w h => List.mem_cons_of_mem _ (uG_X5 w h)) tyX5 tyX5_ok hown (hts _ (List.mem_cons_of_mem _ kw_616)) (hts _ (List.mem_cons_of_mem _ kw_617)) (hts _ (List.mem_cons_of_mem _ kw_195)) hK hP hD hS hA rfl (by decide +kernel) (Nat.le_of_ble_eq_true rfl) (by show 13 + (11 * c1) + 3 + 6 + 15 ≤ 11 * c1 + 139; omega) dX9_init_39 (fun q6 H hP hD hS => ?_)
  have hP : va_P (dC, dI) vwCl [(h0, .inr (10, [.int 0, .int 0, .ref q1, .null, .int 0, .int 0, .ref q4, .ref hQ, .int 0, .int 0, .null, .int 0])), (q1, .inr (2, [.int 0, .ref k3_1, .ref k3_2, .ref k3_3, .ref k3_4, .ref k3_5, .ref k3_6, .ref k3_7, .ref k3_8, .ref k3_9, .ref k3_10, .ref k3_11, .int 0])), (k3_1, .inl (cI, c1, .inl (fun _ => 0))), (k3_2, .inl (cI, c1, .inl (fun _ => 0))), (k3_3, .inl (cI, c1, .inl (fun _ => 0))), (k3_4, .inl (cI, c1, .inl (fun _ => 0))), (k3_5, .inl (cJ, c1, .inr (.inl (fun _ => 0)))), (k3_6, .inl (cJ, c1, .inr (.inl (fun _ => 0)))), (k3_7, .inl (cI, c1, .inl (fun _ => 0))), (k3_8, .inl (cI, c1, .inl (fun _ => 0))), (k3_9, .inl (cI, c1, .inl (fun _ => 0))), (k3_10, .inl (cJ, c1, .inr (.inl (fun _ => 0)))), (k3_11, .inl (cB, c1, .inl (fun _ => 0))), (q4, .inl (cS, 3, .inr (.inr (.inr (.inr (fun _ => none)))))), (q5, .inr (4, [.null, .null, .null, .int 0, .int 0, .int 0])), (q6, .inr (6, [.int 0, .int 0, .null, .null, .int 0, .int 0, .int 0, .int 0, .null, .int 0, .null, .int 0, .int 0, .int 0, .int 0]))] H := hP
  have hD : va_D A [(h0, .inr (10, [.int 0, .int 0, .ref q1, .null, .int 0, .int 0, .ref q4, .ref hQ, .int 0, .int 0, .null, .int 0])), (q1, .inr (2, [.int 0, .ref k3_1, .ref k3_2, .ref k3_3, .ref k3_4, .ref k3_5, .ref k3_6, .ref k3_7, .ref k3_8, .ref k3_9, .ref k3_10, .ref k3_11, .int 0])), (k3_1, .inl (cI, c1, .inl (fun _ => 0))), (k3_2, .inl (cI, c1, .inl (fun _ => 0))), (k3_3, .inl (cI, c1, .inl (fun _ => 0))), (k3_4, .inl (cI, c1, .inl (fun _ => 0))), (k3_5, .inl (cJ, c1, .inr (.inl (fun _ => 0)))), (k3_6, .inl (cJ, c1, .inr (.inl (fun _ => 0)))), (k3_7, .inl (cI, c1, .inl (fun _ => 0))), (k3_8, .inl (cI, c1, .inl (fun _ => 0))), (k3_9, .inl (cI, c1, .inl (fun _ => 0))), (k3_10, .inl (cJ, c1, .inr (.inl (fun _ => 0)))), (k3_11, .inl (cB, c1, .inl (fun _ => 0))), (q4, .inl (cS, 3, .inr (.inr (.inr (.inr (fun _ => none)))))), (q5, .inr (4, [.null, .null, .null, .int 0, .int 0, .int 0])), (q6, .inr (6, [.int 0, .int 0, .null, .null, .int 0, .int 0, .int 0, .int 0, .null, .int 0, .null, .int 0, .int 0, .int 0, .int 0]))] := hD
  refine W.widen (k := 15) (n := 13 + (11 * c1) + 3 + 6 + 15) (by omega) (by omega) ?_
  refine lv_dup hx hb dX9_init_42 rfl ?_
  have hPc := hP.sub (ws' := [(q6, .inr (6, [.int 0, .int 0, .null, .null, .int 0, .int 0, .int 0, .int 0, .null, .int 0, .null, .int 0, .int 0, .int 0, .int 0]))]) [15] rfl
  have hDc := hD.sub (ws' := [(q6, .inr (6, [.int 0, .int 0, .null, .null, .int 0, .int 0, .int 0, .int 0, .null, .int 0, .null, .int 0, .int 0, .int 0, .int 0]))]) [15] (by decide) rfl
  have hKc := hK.sub (tys' := [(cB, .byte), (cI, .int), (cJ, .long), (cZ, .boolean), (cS, .object "StreamQueries$Source"), (cO, .object "java/lang/Object")]) [2, 3, 4, 5, 0, 1] rfl
  have hFc := va_free (wc := [(q6, .inr (6, [.int 0, .int 0, .null, .null, .int 0, .int 0, .int 0, .int 0, .null, .int 0, .null, .int 0, .int 0, .int 0, .int 0]))]) hD hS hA [15] rfl
  refine va_callv (va_runIN (As := []) (rest := [.ref q6, .ref q5, .ref q5, .ref h0]) ⟨hx, hb, hml, hown, hts⟩ (t_X5_init l dC dI H.size cB cI cJ cZ cS cO q6 K V fz) ⟨va_cnB 0 hts (gd_all (in_I kc_X5_init)) rfl rfl rfl hZ.n1 (hts _ (List.mem_cons_of_mem _ kw_195)) (by decide +kernel) ⟨Nat.le_of_ble_eq_true rfl, Nat.le_of_ble_eq_true rfl⟩, rfl, hts _ (List.mem_cons_of_mem _ kw_619)⟩ ⟨fun a U g mk q => by obtain ⟨q0, q1, qP, qK, qD, qZ⟩ := q; exact ⟨q0, q1, qP, va_K.moved (u := U) (U := U.calling g mk a) (Vm.Alike.refl U.vm) qK, qD, zE.same (u := U) (U := U.calling g mk a) rfl rfl qZ⟩, fun U hU hW => ⟨rfl, by rw [hU], by rw [hU]; exact hPc, va_K.moved hW.alike hKc, hDc.weaken (fun _ _ _ _ => trivial), zE.go hZ hS hU hW hFc⟩⟩ rfl rfl hl.1 rfl (lv_room (Nat.le_of_ble_eq_true rfl)) dX9_init_43 ⟨Nat.le_of_ble_eq_true rfl, by show 13 + (11 * c1) + 3 + 6 + 15 + 89 ≤ 11 * c1 + 139; omega⟩) hS (fun q _ h => hFc q h) hFc (fun u t_ H1 locs ht hvm hw hB hz1 hk1 hS => ?_)
  obtain ⟨s7_0, s7_1, s7_2, s7_3, s7_4, s7_5, s7_6, s7_7, s7_8, s7_9, s7_10, s7_11, hP1, hK1, hD1⟩ := hB
  rw [ht] at hP1
  have hK1 := va_K.moved hvm.symm hK1
  obtain ⟨hP, hD⟩ := va_join (wr := [(h0, .inr (10, [.int 0, .int 0, .ref q1, .null, .int 0, .int 0, .ref q4, .ref hQ, .int 0, .int 0, .null, .int 0])), (q1, .inr (2, [.int 0, .ref k3_1, .ref k3_2, .ref k3_3, .ref k3_4, .ref k3_5, .ref k3_6, .ref k3_7, .ref k3_8, .ref k3_9, .ref k3_10, .ref k3_11, .int 0])), (k3_1, .inl (cI, c1, .inl (fun _ => 0))), (k3_2, .inl (cI, c1, .inl (fun _ => 0))), (k3_3, .inl (cI, c1, .inl (fun _ => 0))), (k3_4, .inl (cI, c1, .inl (fun _ => 0))), (k3_5, .inl (cJ, c1, .inr (.inl (fun _ => 0)))), (k3_6, .inl (cJ, c1, .inr (.inl (fun _ => 0)))), (k3_7, .inl (cI, c1, .inl (fun _ => 0))), (k3_8, .inl (cI, c1, .inl (fun _ => 0))), (k3_9, .inl (cI, c1, .inl (fun _ => 0))), (k3_10, .inl (cJ, c1, .inr (.inl (fun _ => 0)))), (k3_11, .inl (cB, c1, .inl (fun _ => 0))), (q4, .inl (cS, 3, .inr (.inr (.inr (.inr (fun _ => none)))))), (q5, .inr (4, [.null, .null, .null, .int 0, .int 0, .int 0]))]) (w1 := [(q6, .inr (6, [.int 0, .int 0, .ref s7_0, .ref s7_5, .int 0, .int (-1), .int 0, .int 0, .ref s7_6, .int (-1), .ref s7_11, .int 0, .int 10, .int 0, .int 0])), (s7_0, .inr (3, [.int 0, .ref s7_1, .ref s7_2, .ref s7_3, .ref s7_4])), (s7_1, .inl (cI, 8, .inl (fun _ => 0))), (s7_2, .inl (cJ, 8, .inr (.inl (fun _ => 0)))), (s7_3, .inl (cI, 8, .inl (fun _ => 0))), (s7_4, .inl (cI, 8, .inl (fun _ => 0))), (s7_5, .inl (cS, 3, .inr (.inr (.inr (.inr (fun _ => none)))))), (s7_6, .inr (3, [.int 0, .ref s7_7, .ref s7_8, .ref s7_9, .ref s7_10])), (s7_7, .inl (cI, 8, .inl (fun _ => 0))), (s7_8, .inl (cJ, 8, .inr (.inl (fun _ => 0)))), (s7_9, .inl (cI, 8, .inl (fun _ => 0))), (s7_10, .inl (cI, 8, .inl (fun _ => 0))), (s7_11, .inl (cI, 12, .inl (fun _ => 0)))]) hP hD [15] [0, 1, 2, 3, 4, 5, 6, 7, 8, 9, 10, 11, 12, 13, 14] rfl rfl (by decide) (by decide) hk1 hFc hP1 hD1
  have hK := (hK.sub (tys' := []) [] rfl).app hK1
  generalize H1 = H at hP hS ⊢
  have hP : va_P (dC, dI) vwCl [(h0, .inr (10, [.int 0, .int 0, .ref q1, .null, .int 0, .int 0, .ref q4, .ref hQ, .int 0, .int 0, .null, .int 0])), (q1, .inr (2, [.int 0, .ref k3_1, .ref k3_2, .ref k3_3, .ref k3_4, .ref k3_5, .ref k3_6, .ref k3_7, .ref k3_8, .ref k3_9, .ref k3_10, .ref k3_11, .int 0])), (k3_1, .inl (cI, c1, .inl (fun _ => 0))), (k3_2, .inl (cI, c1, .inl (fun _ => 0))), (k3_3, .inl (cI, c1, .inl (fun _ => 0))), (k3_4, .inl (cI, c1, .inl (fun _ => 0))), (k3_5, .inl (cJ, c1, .inr (.inl (fun _ => 0)))), (k3_6, .inl (cJ, c1, .inr (.inl (fun _ => 0)))), (k3_7, .inl (cI, c1, .inl (fun _ => 0))), (k3_8, .inl (cI, c1, .inl (fun _ => 0))), (k3_9, .inl (cI, c1, .inl (fun _ => 0))), (k3_10, .inl (cJ, c1, .inr (.inl (fun _ => 0)))), (k3_11, .inl (cB, c1, .inl (fun _ => 0))), (q4, .inl (cS, 3, .inr (.inr (.inr (.inr (fun _ => none)))))), (q5, .inr (4, [.null, .null, .null, .int 0, .int 0, .int 0])), (q6, .inr (6, [.int 0, .int 0, .ref s7_0, .ref s7_5, .int 0, .int (-1), .int 0, .int 0, .ref s7_6, .int (-1), .ref s7_11, .int 0, .int 10, .int 0, .int 0])), (s7_0, .inr (3, [.int 0, .ref s7_1, .ref s7_2, .ref s7_3, .ref s7_4])), (s7_1, .inl (cI, 8, .inl (fun _ => 0))), (s7_2, .inl (cJ, 8, .inr (.inl (fun _ => 0)))), (s7_3, .inl (cI, 8, .inl (fun _ => 0))), (s7_4, .inl (cI, 8, .inl (fun _ => 0))), (s7_5, .inl (cS, 3, .inr (.inr (.inr (.inr (fun _ => none)))))), (s7_6, .inr (3, [.int 0, .ref s7_7, .ref s7_8, .ref s7_9, .ref s7_10])), (s7_7, .inl (cI, 8, .inl (fun _ => 0))), (s7_8, .inl (cJ, 8, .inr (.inl (fun _ => 0)))), (s7_9, .inl (cI, 8, .inl (fun _ => 0))), (s7_10, .inl (cI, 8, .inl (fun _ => 0))), (s7_11, .inl (cI, 12, .inl (fun _ => 0)))] H := hP
  have hD : va_D A [(h0, .inr (10, [.int 0, .int 0, .ref q1, .null, .int 0, .int 0, .ref q4, .ref hQ, .int 0, .int 0, .null, .int 0])), (q1, .inr (2, [.int 0, .ref k3_1, .ref k3_2, .ref k3_3, .ref k3_4, .ref k3_5, .ref k3_6, .ref k3_7, .ref k3_8, .ref k3_9, .ref k3_10, .ref k3_11, .int 0])), (k3_1, .inl (cI, c1, .inl (fun _ => 0))), (k3_2, .inl (cI, c1, .inl (fun _ => 0))), (k3_3, .inl (cI, c1, .inl (fun _ => 0))), (k3_4, .inl (cI, c1, .inl (fun _ => 0))), (k3_5, .inl (cJ, c1, .inr (.inl (fun _ => 0)))), (k3_6, .inl (cJ, c1, .inr (.inl (fun _ => 0)))), (k3_7, .inl (cI, c1, .inl (fun _ => 0))), (k3_8, .inl (cI, c1, .inl (fun _ => 0))), (k3_9, .inl (cI, c1, .inl (fun _ => 0))), (k3_10, .inl (cJ, c1, .inr (.inl (fun _ => 0)))), (k3_11, .inl (cB, c1, .inl (fun _ => 0))), (q4, .inl (cS, 3, .inr (.inr (.inr (.inr (fun _ => none)))))), (q5, .inr (4, [.null, .null, .null, .int 0, .int 0, .int 0])), (q6, .inr (6, [.int 0, .int 0, .ref s7_0, .ref s7_5, .int 0, .int (-1), .int 0, .int 0, .ref s7_6, .int (-1), .ref s7_11, .int 0, .int 10, .int 0, .int 0])), (s7_0, .inr (3, [.int 0, .ref s7_1, .ref s7_2, .ref s7_3, .ref s7_4])), (s7_1, .inl (cI, 8, .inl (fun _ => 0))), (s7_2, .inl (cJ, 8, .inr (.inl (fun _ => 0)))), (s7_3, .inl (cI, 8, .inl (fun _ => 0))), (s7_4, .inl (cI, 8, .inl (fun _ => 0))), (s7_5, .inl (cS, 3, .inr (.inr (.inr (.inr (fun _ => none)))))), (s7_6, .inr (3, [.int 0, .ref s7_7, .ref s7_8, .ref s7_9, .ref s7_10])), (s7_7, .inl (cI, 8, .inl (fun _ => 0))), (s7_8, .inl (cJ, 8, .inr (.inl (fun _ => 0)))), (s7_9, .inl (cI, 8, .inl (fun _ => 0))), (s7_10, .inl (cI, 8, .inl (fun _ => 0))), (s7_11, .inl (cI, 12, .inl (fun _ => 0)))] := hD
  have hK : va_K (dC, dI) vwCl [(cB, .byte), (cI, .int), (cJ, .long), (cZ, .boolean), (cS, .object "StreamQueries$Source"), (cO, .object "java/lang/Object")] s := hK
  have hPc := hP.sub (ws' := [(q5, .inr (4, [.null, .null, .null, .int 0, .int 0, .int 0])), (q6, .inr (6, [.int 0, .int 0, .ref s7_0, .ref s7_5, .int 0, .int (-1), .int 0, .int 0, .ref s7_6, .int (-1), .ref s7_11, .int 0, .int 10, .int 0, .int 0]))]) [14, 15] rfl
  have hDc := hD.sub (ws' := [(q5, .inr (4, [.null, .null, .null, .int 0, .int 0, .int 0])), (q6, .inr (6, [.int 0, .int 0, .ref s7_0, .ref s7_5, .int 0, .int (-1), .int 0, .int 0, .ref s7_6, .int (-1), .ref s7_11, .int 0, .int 10, .int 0, .int 0]))]) [14, 15] (by decide) rfl
  have hKc := hK.sub (tys' := [(cB, .byte), (cI, .int), (cJ, .long), (cZ, .boolean), (cS, .object "StreamQueries$Source"), (cO, .object "java/lang/Object")]) [0, 1, 2, 3, 4, 5] rfl
  have hFc := va_free (wc := [(q5, .inr (4, [.null, .null, .null, .int 0, .int 0, .int 0])), (q6, .inr (6, [.int 0, .int 0, .ref s7_0, .ref s7_5, .int 0, .int (-1), .int 0, .int 0, .ref s7_6, .int (-1), .ref s7_11, .int 0, .int 10, .int 0, .int 0]))]) hD hS hA [14, 15] rfl
  refine va_callv (va_runI (As := [.ref q6]) (rest := [.ref q5, .ref h0]) ⟨hx, hb, hml, hown, hts⟩ (t_X3_init l dC dI H.size cB cI cJ cZ cS cO q5 q6 s7_0 (.int 0) (.int 0) (.ref s7_5) (.int 0) (.int (-1)) (.int 0) (.int 0) (.ref s7_6) (.int (-1)) (.ref s7_11) (.int 0) (.int 10) (.int 0) (.int 0) K V fz) (cwI 1 hts (gd_all (in_I kc_X3_init)) rfl rfl rfl (hts _ (List.mem_cons_of_mem _ kw_194)) (hts _ (List.mem_cons_of_mem _ kw_736)) (hts _ (List.mem_cons_of_mem _ kw_737)) rfl (by decide +kernel) ⟨Nat.le_of_ble_eq_true rfl, Nat.le_of_ble_eq_true rfl⟩) ⟨fun a U g mk q => by obtain ⟨q0, q1, qP, qK, qD, qZ⟩ := q; exact ⟨q0, q1, qP, va_K.moved (u := U) (U := U.calling g mk a) (Vm.Alike.refl U.vm) qK, qD, zE.same (u := U) (U := U.calling g mk a) rfl rfl qZ⟩, fun U hU hW => ⟨rfl, by rw [hU], by rw [hU]; exact hPc, va_K.moved hW.alike hKc, hDc.weaken (fun _ _ _ _ => trivial), zE.go hZ hS hU hW hFc⟩⟩ rfl rfl hl.1 rfl (lv_room (Nat.le_of_ble_eq_true rfl)) dX9_init_46 ⟨Nat.le_of_ble_eq_true rfl, by show 13 + (11 * c1) + 3 + 6 + 15 + 89 + 13 ≤ 11 * c1 + 139; omega⟩) hS (fun q _ h => hFc q h) hFc (fun u t_ H1 locs ht hvm hw hB hz1 hk1 hS => ?_)
  obtain ⟨l8_1, l8_2, hP1, hK1, hD1⟩ := hB
  rw [ht] at hP1
  have hK1 := va_K.moved hvm.symm hK1
  obtain ⟨hP, hD⟩ := va_join (wr := [(h0, .inr (10, [.int 0, .int 0, .ref q1, .null, .int 0, .int 0, .ref q4, .ref hQ, .int 0, .int 0, .null, .int 0])), (q1, .inr (2, [.int 0, .ref k3_1, .ref k3_2, .ref k3_3, .ref k3_4, .ref k3_5, .ref k3_6, .ref k3_7, .ref k3_8, .ref k3_9, .ref k3_10, .ref k3_11, .int 0])), (k3_1, .inl (cI, c1, .inl (fun _ => 0))), (k3_2, .inl (cI, c1, .inl (fun _ => 0))), (k3_3, .inl (cI, c1, .inl (fun _ => 0))), (k3_4, .inl (cI, c1, .inl (fun _ => 0))), (k3_5, .inl (cJ, c1, .inr (.inl (fun _ => 0)))), (k3_6, .inl (cJ, c1, .inr (.inl (fun _ => 0)))), (k3_7, .inl (cI, c1, .inl (fun _ => 0))), (k3_8, .inl (cI, c1, .inl (fun _ => 0))), (k3_9, .inl (cI, c1, .inl (fun _ => 0))), (k3_10, .inl (cJ, c1, .inr (.inl (fun _ => 0)))), (k3_11, .inl (cB, c1, .inl (fun _ => 0))), (q4, .inl (cS, 3, .inr (.inr (.inr (.inr (fun _ => none)))))), (s7_0, .inr (3, [.int 0, .ref s7_1, .ref s7_2, .ref s7_3, .ref s7_4])), (s7_1, .inl (cI, 8, .inl (fun _ => 0))), (s7_2, .inl (cJ, 8, .inr (.inl (fun _ => 0)))), (s7_3, .inl (cI, 8, .inl (fun _ => 0))), (s7_4, .inl (cI, 8, .inl (fun _ => 0))), (s7_5, .inl (cS, 3, .inr (.inr (.inr (.inr (fun _ => none)))))), (s7_6, .inr (3, [.int 0, .ref s7_7, .ref s7_8, .ref s7_9, .ref s7_10])), (s7_7, .inl (cI, 8, .inl (fun _ => 0))), (s7_8, .inl (cJ, 8, .inr (.inl (fun _ => 0)))), (s7_9, .inl (cI, 8, .inl (fun _ => 0))), (s7_10, .inl (cI, 8, .inl (fun _ => 0))), (s7_11, .inl (cI, 12, .inl (fun _ => 0)))]) (w1 := [(q5, .inr (4, [.ref l8_1, .ref s7_0, .null, .int 0, .int 0, .int 0])), (q6, .inr (6, [.int 0, .int 0, .ref s7_0, .ref s7_5, .int 0, .int (-1), .int 0, .int 0, .ref s7_6, .int (-1), .ref s7_11, .int 0, .int 10, .int 0, .int 0])), (l8_1, .inr (0, [.int 1, .ref l8_2, .int 1])), (l8_2, .inl (cO, 10, .inr (.inr (.inr (.inr (va_up (fun _ => none) 0 (some q6)))))))]) hP hD [14, 15] [0, 1, 2, 3, 4, 5, 6, 7, 8, 9, 10, 11, 12, 13, 16, 17, 18, 19, 20, 21, 22, 23, 24, 25, 26, 27] rfl rfl (by decide) (by decide) hk1 hFc hP1 hD1
  have hK := (hK.sub (tys' := []) [] rfl).app hK1
  generalize H1 = H at hP hS ⊢
  have hP : va_P (dC, dI) vwCl [(h0, .inr (10, [.int 0, .int 0, .ref q1, .null, .int 0, .int 0, .ref q4, .ref hQ, .int 0, .int 0, .null, .int 0])), (q1, .inr (2, [.int 0, .ref k3_1, .ref k3_2, .ref k3_3, .ref k3_4, .ref k3_5, .ref k3_6, .ref k3_7, .ref k3_8, .ref k3_9, .ref k3_10, .ref k3_11, .int 0])), (k3_1, .inl (cI, c1, .inl (fun _ => 0))), (k3_2, .inl (cI, c1, .inl (fun _ => 0))), (k3_3, .inl (cI, c1, .inl (fun _ => 0))), (k3_4, .inl (cI, c1, .inl (fun _ => 0))), (k3_5, .inl (cJ, c1, .inr (.inl (fun _ => 0)))), (k3_6, .inl (cJ, c1, .inr (.inl (fun _ => 0)))), (k3_7, .inl (cI, c1, .inl (fun _ => 0))), (k3_8, .inl (cI, c1, .inl (fun _ => 0))), (k3_9, .inl (cI, c1, .inl (fun _ => 0))), (k3_10, .inl (cJ, c1, .inr (.inl (fun _ => 0)))), (k3_11, .inl (cB, c1, .inl (fun _ => 0))), (q4, .inl (cS, 3, .inr (.inr (.inr (.inr (fun _ => none)))))), (s7_0, .inr (3, [.int 0, .ref s7_1, .ref s7_2, .ref s7_3, .ref s7_4])), (s7_1, .inl (cI, 8, .inl (fun _ => 0))), (s7_2, .inl (cJ, 8, .inr (.inl (fun _ => 0)))), (s7_3, .inl (cI, 8, .inl (fun _ => 0))), (s7_4, .inl (cI, 8, .inl (fun _ => 0))), (s7_5, .inl (cS, 3, .inr (.inr (.inr (.inr (fun _ => none)))))), (s7_6, .inr (3, [.int 0, .ref s7_7, .ref s7_8, .ref s7_9, .ref s7_10])), (s7_7, .inl (cI, 8, .inl (fun _ => 0))), (s7_8, .inl (cJ, 8, .inr (.inl (fun _ => 0)))), (s7_9, .inl (cI, 8, .inl (fun _ => 0))), (s7_10, .inl (cI, 8, .inl (fun _ => 0))), (s7_11, .inl (cI, 12, .inl (fun _ => 0))), (q5, .inr (4, [.ref l8_1, .ref s7_0, .null, .int 0, .int 0, .int 0])), (q6, .inr (6, [.int 0, .int 0, .ref s7_0, .ref s7_5, .int 0, .int (-1), .int 0, .int 0, .ref s7_6, .int (-1), .ref s7_11, .int 0, .int 10, .int 0, .int 0])), (l8_1, .inr (0, [.int 1, .ref l8_2, .int 1])), (l8_2, .inl (cO, 10, .inr (.inr (.inr (.inr (va_up (fun _ => none) 0 (some q6)))))))] H := hP
  have hD : va_D A [(h0, .inr (10, [.int 0, .int 0, .ref q1, .null, .int 0, .int 0, .ref q4, .ref hQ, .int 0, .int 0, .null, .int 0])), (q1, .inr (2, [.int 0, .ref k3_1, .ref k3_2, .ref k3_3, .ref k3_4, .ref k3_5, .ref k3_6, .ref k3_7, .ref k3_8, .ref k3_9, .ref k3_10, .ref k3_11, .int 0])), (k3_1, .inl (cI, c1, .inl (fun _ => 0))), (k3_2, .inl (cI, c1, .inl (fun _ => 0))), (k3_3, .inl (cI, c1, .inl (fun _ => 0))), (k3_4, .inl (cI, c1, .inl (fun _ => 0))), (k3_5, .inl (cJ, c1, .inr (.inl (fun _ => 0)))), (k3_6, .inl (cJ, c1, .inr (.inl (fun _ => 0)))), (k3_7, .inl (cI, c1, .inl (fun _ => 0))), (k3_8, .inl (cI, c1, .inl (fun _ => 0))), (k3_9, .inl (cI, c1, .inl (fun _ => 0))), (k3_10, .inl (cJ, c1, .inr (.inl (fun _ => 0)))), (k3_11, .inl (cB, c1, .inl (fun _ => 0))), (q4, .inl (cS, 3, .inr (.inr (.inr (.inr (fun _ => none)))))), (s7_0, .inr (3, [.int 0, .ref s7_1, .ref s7_2, .ref s7_3, .ref s7_4])), (s7_1, .inl (cI, 8, .inl (fun _ => 0))), (s7_2, .inl (cJ, 8, .inr (.inl (fun _ => 0)))), (s7_3, .inl (cI, 8, .inl (fun _ => 0))), (s7_4, .inl (cI, 8, .inl (fun _ => 0))), (s7_5, .inl (cS, 3, .inr (.inr (.inr (.inr (fun _ => none)))))), (s7_6, .inr (3, [.int 0, .ref s7_7, .ref s7_8, .ref s7_9, .ref s7_10])), (s7_7, .inl (cI, 8, .inl (fun _ => 0))), (s7_8, .inl (cJ, 8, .inr (.inl (fun _ => 0)))), (s7_9, .inl (cI, 8, .inl (fun _ => 0))), (s7_10, .inl (cI, 8, .inl (fun _ => 0))), (s7_11, .inl (cI, 12, .inl (fun _ => 0))), (q5, .inr (4, [.ref l8_1, .ref s7_0, .null, .int 0, .int 0, .int 0])), (q6, .inr (6, [.int 0, .int 0, .ref s7_0, .ref s7_5, .int 0, .int (-1), .int 0, .int 0, .ref s7_6, .int (-1), .ref s7_11, .int 0, .int 10, .int 0, .int 0])), (l8_1, .inr (0, [.int 1, .ref l8_2, .int 1])), (l8_2, .inl (cO, 10, .inr (.inr (.inr (.inr (va_up (fun _ => none) 0 (some q6)))))))] := hD
  have hK : va_K (dC, dI) vwCl [(cB, .byte), (cI, .int), (cJ, .long), (cZ, .boolean), (cS, .object "StreamQueries$Source"), (cO, .object "java/lang/Object")] s := hK
  refine va_put (D := (dC, dI)) (ci := 10) (v := .ref q5) (ty := .object "StreamQueries$Query") (C := RX9) (T := TX9) (N := 12) hx hb hts (fun w h => List.mem_cons_of_mem _ (uG_X9 w h)) tyX9 tyX9_ok nmX9 hown hK hP hD hS 0 rfl rfl 3 (by decide) (hts _ (List.mem_cons_of_mem _ kw_862)) (fun _ h9 => h9) rfl (by decide +kernel) rfl rfl (Nat.le_of_ble_eq_true rfl) dX9_init_49 (fun H locs hP hD hS => ?_)
  have hP : va_P (dC, dI) vwCl [(h0, .inr (10, [.int 0, .int 0, .ref q1, .ref q5, .int 0, .int 0, .ref q4, .ref hQ, .int 0, .int 0, .null, .int 0])), (q1, .inr (2, [.int 0, .ref k3_1, .ref k3_2, .ref k3_3, .ref k3_4, .ref k3_5, .ref k3_6, .ref k3_7, .ref k3_8, .ref k3_9, .ref k3_10, .ref k3_11, .int 0])), (k3_1, .inl (cI, c1, .inl (fun _ => 0))), (k3_2, .inl (cI, c1, .inl (fun _ => 0))), (k3_3, .inl (cI, c1, .inl (fun _ => 0))), (k3_4, .inl (cI, c1, .inl (fun _ => 0))), (k3_5, .inl (cJ, c1, .inr (.inl (fun _ => 0)))), (k3_6, .inl (cJ, c1, .inr (.inl (fun _ => 0)))), (k3_7, .inl (cI, c1, .inl (fun _ => 0))), (k3_8, .inl (cI, c1, .inl (fun _ => 0))), (k3_9, .inl (cI, c1, .inl (fun _ => 0))), (k3_10, .inl (cJ, c1, .inr (.inl (fun _ => 0)))), (k3_11, .inl (cB, c1, .inl (fun _ => 0))), (q4, .inl (cS, 3, .inr (.inr (.inr (.inr (fun _ => none)))))), (s7_0, .inr (3, [.int 0, .ref s7_1, .ref s7_2, .ref s7_3, .ref s7_4])), (s7_1, .inl (cI, 8, .inl (fun _ => 0))), (s7_2, .inl (cJ, 8, .inr (.inl (fun _ => 0)))), (s7_3, .inl (cI, 8, .inl (fun _ => 0))), (s7_4, .inl (cI, 8, .inl (fun _ => 0))), (s7_5, .inl (cS, 3, .inr (.inr (.inr (.inr (fun _ => none)))))), (s7_6, .inr (3, [.int 0, .ref s7_7, .ref s7_8, .ref s7_9, .ref s7_10])), (s7_7, .inl (cI, 8, .inl (fun _ => 0))), (s7_8, .inl (cJ, 8, .inr (.inl (fun _ => 0)))), (s7_9, .inl (cI, 8, .inl (fun _ => 0))), (s7_10, .inl (cI, 8, .inl (fun _ => 0))), (s7_11, .inl (cI, 12, .inl (fun _ => 0))), (q5, .inr (4, [.ref l8_1, .ref s7_0, .null, .int 0, .int 0, .int 0])), (q6, .inr (6, [.int 0, .int 0, .ref s7_0, .ref s7_5, .int 0, .int (-1), .int 0, .int 0, .ref s7_6, .int (-1), .ref s7_11, .int 0, .int 10, .int 0, .int 0])), (l8_1, .inr (0, [.int 1, .ref l8_2, .int 1])), (l8_2, .inl (cO, 10, .inr (.inr (.inr (.inr (va_up (fun _ => none) 0 (some q6)))))))] H := hP
  have hD : va_D A [(h0, .inr (10, [.int 0, .int 0, .ref q1, .ref q5, .int 0, .int 0, .ref q4, .ref hQ, .int 0, .int 0, .null, .int 0])), (q1, .inr (2, [.int 0, .ref k3_1, .ref k3_2, .ref k3_3, .ref k3_4, .ref k3_5, .ref k3_6, .ref k3_7, .ref k3_8, .ref k3_9, .ref k3_10, .ref k3_11, .int 0])), (k3_1, .inl (cI, c1, .inl (fun _ => 0))), (k3_2, .inl (cI, c1, .inl (fun _ => 0))), (k3_3, .inl (cI, c1, .inl (fun _ => 0))), (k3_4, .inl (cI, c1, .inl (fun _ => 0))), (k3_5, .inl (cJ, c1, .inr (.inl (fun _ => 0)))), (k3_6, .inl (cJ, c1, .inr (.inl (fun _ => 0)))), (k3_7, .inl (cI, c1, .inl (fun _ => 0))), (k3_8, .inl (cI, c1, .inl (fun _ => 0))), (k3_9, .inl (cI, c1, .inl (fun _ => 0))), (k3_10, .inl (cJ, c1, .inr (.inl (fun _ => 0)))), (k3_11, .inl (cB, c1, .inl (fun _ => 0))), (q4, .inl (cS, 3, .inr (.inr (.inr (.inr (fun _ => none)))))), (s7_0, .inr (3, [.int 0, .ref s7_1, .ref s7_2, .ref s7_3, .ref s7_4])), (s7_1, .inl (cI, 8, .inl (fun _ => 0))), (s7_2, .inl (cJ, 8, .inr (.inl (fun _ => 0)))), (s7_3, .inl (cI, 8, .inl (fun _ => 0))), (s7_4, .inl (cI, 8, .inl (fun _ => 0))), (s7_5, .inl (cS, 3, .inr (.inr (.inr (.inr (fun _ => none)))))), (s7_6, .inr (3, [.int 0, .ref s7_7, .ref s7_8, .ref s7_9, .ref s7_10])), (s7_7, .inl (cI, 8, .inl (fun _ => 0))), (s7_8, .inl (cJ, 8, .inr (.inl (fun _ => 0)))), (s7_9, .inl (cI, 8, .inl (fun _ => 0))), (s7_10, .inl (cI, 8, .inl (fun _ => 0))), (s7_11, .inl (cI, 12, .inl (fun _ => 0))), (q5, .inr (4, [.ref l8_1, .ref s7_0, .null, .int 0, .int 0, .int 0])), (q6, .inr (6, [.int 0, .int 0, .ref s7_0, .ref s7_5, .int 0, .int (-1), .int 0, .int 0, .ref s7_6, .int (-1), .ref s7_11, .int 0, .int 10, .int 0, .int 0])), (l8_1, .inr (0, [.int 1, .ref l8_2, .int 1])), (l8_2, .inl (cO, 10, .inr (.inr (.inr (.inr (va_up (fun _ => none) 0 (some q6)))))))] := hD
  have hP9 := hP.sub (ws' := [(h0, .inr (10, [.int 0, .int 0, .ref q1, .ref q5, .int 0, .int 0, .ref q4, .ref hQ, .int 0, .int 0, .null, .int 0])), (q1, .inr (2, [.int 0, .ref k3_1, .ref k3_2, .ref k3_3, .ref k3_4, .ref k3_5, .ref k3_6, .ref k3_7, .ref k3_8, .ref k3_9, .ref k3_10, .ref k3_11, .int 0])), (k3_1, .inl (cI, c1, .inl (fun _ => 0))), (k3_2, .inl (cI, c1, .inl (fun _ => 0))), (k3_3, .inl (cI, c1, .inl (fun _ => 0))), (k3_4, .inl (cI, c1, .inl (fun _ => 0))), (k3_5, .inl (cJ, c1, .inr (.inl (fun _ => 0)))), (k3_6, .inl (cJ, c1, .inr (.inl (fun _ => 0)))), (k3_7, .inl (cI, c1, .inl (fun _ => 0))), (k3_8, .inl (cI, c1, .inl (fun _ => 0))), (k3_9, .inl (cI, c1, .inl (fun _ => 0))), (k3_10, .inl (cJ, c1, .inr (.inl (fun _ => 0)))), (k3_11, .inl (cB, c1, .inl (fun _ => 0))), (q4, .inl (cS, 3, .inr (.inr (.inr (.inr (fun _ => none)))))), (q5, .inr (4, [.ref l8_1, .ref s7_0, .null, .int 0, .int 0, .int 0])), (l8_1, .inr (0, [.int 1, .ref l8_2, .int 1])), (l8_2, .inl (cO, 10, .inr (.inr (.inr (.inr (va_up (fun _ => none) 0 (some q6))))))), (q6, .inr (6, [.int 0, .int 0, .ref s7_0, .ref s7_5, .int 0, .int (-1), .int 0, .int 0, .ref s7_6, .int (-1), .ref s7_11, .int 0, .int 10, .int 0, .int 0])), (s7_0, .inr (3, [.int 0, .ref s7_1, .ref s7_2, .ref s7_3, .ref s7_4])), (s7_1, .inl (cI, 8, .inl (fun _ => 0))), (s7_2, .inl (cJ, 8, .inr (.inl (fun _ => 0)))), (s7_3, .inl (cI, 8, .inl (fun _ => 0))), (s7_4, .inl (cI, 8, .inl (fun _ => 0))), (s7_5, .inl (cS, 3, .inr (.inr (.inr (.inr (fun _ => none)))))), (s7_6, .inr (3, [.int 0, .ref s7_7, .ref s7_8, .ref s7_9, .ref s7_10])), (s7_7, .inl (cI, 8, .inl (fun _ => 0))), (s7_8, .inl (cJ, 8, .inr (.inl (fun _ => 0)))), (s7_9, .inl (cI, 8, .inl (fun _ => 0))), (s7_10, .inl (cI, 8, .inl (fun _ => 0))), (s7_11, .inl (cI, 12, .inl (fun _ => 0)))]) [0, 1, 2, 3, 4, 5, 6, 7, 8, 9, 10, 11, 12, 13, 26, 28, 29, 27, 14, 15, 16, 17, 18, 19, 20, 21, 22, 23, 24, 25] rfl
  have hD9 := hD.sub (ws' := [(h0, .inr (10, [.int 0, .int 0, .ref q1, .ref q5, .int 0, .int 0, .ref q4, .ref hQ, .int 0, .int 0, .null, .int 0])), (q1, .inr (2, [.int 0, .ref k3_1, .ref k3_2, .ref k3_3, .ref k3_4, .ref k3_5, .ref k3_6, .ref k3_7, .ref k3_8, .ref k3_9, .ref k3_10, .ref k3_11, .int 0])), (k3_1, .inl (cI, c1, .inl (fun _ => 0))), (k3_2, .inl (cI, c1, .inl (fun _ => 0))), (k3_3, .inl (cI, c1, .inl (fun _ => 0))), (k3_4, .inl (cI, c1, .inl (fun _ => 0))), (k3_5, .inl (cJ, c1, .inr (.inl (fun _ => 0)))), (k3_6, .inl (cJ, c1, .inr (.inl (fun _ => 0)))), (k3_7, .inl (cI, c1, .inl (fun _ => 0))), (k3_8, .inl (cI, c1, .inl (fun _ => 0))), (k3_9, .inl (cI, c1, .inl (fun _ => 0))), (k3_10, .inl (cJ, c1, .inr (.inl (fun _ => 0)))), (k3_11, .inl (cB, c1, .inl (fun _ => 0))), (q4, .inl (cS, 3, .inr (.inr (.inr (.inr (fun _ => none)))))), (q5, .inr (4, [.ref l8_1, .ref s7_0, .null, .int 0, .int 0, .int 0])), (l8_1, .inr (0, [.int 1, .ref l8_2, .int 1])), (l8_2, .inl (cO, 10, .inr (.inr (.inr (.inr (va_up (fun _ => none) 0 (some q6))))))), (q6, .inr (6, [.int 0, .int 0, .ref s7_0, .ref s7_5, .int 0, .int (-1), .int 0, .int 0, .ref s7_6, .int (-1), .ref s7_11, .int 0, .int 10, .int 0, .int 0])), (s7_0, .inr (3, [.int 0, .ref s7_1, .ref s7_2, .ref s7_3, .ref s7_4])), (s7_1, .inl (cI, 8, .inl (fun _ => 0))), (s7_2, .inl (cJ, 8, .inr (.inl (fun _ => 0)))), (s7_3, .inl (cI, 8, .inl (fun _ => 0))), (s7_4, .inl (cI, 8, .inl (fun _ => 0))), (s7_5, .inl (cS, 3, .inr (.inr (.inr (.inr (fun _ => none)))))), (s7_6, .inr (3, [.int 0, .ref s7_7, .ref s7_8, .ref s7_9, .ref s7_10])), (s7_7, .inl (cI, 8, .inl (fun _ => 0))), (s7_8, .inl (cJ, 8, .inr (.inl (fun _ => 0)))), (s7_9, .inl (cI, 8, .inl (fun _ => 0))), (s7_10, .inl (cI, 8, .inl (fun _ => 0))), (s7_11, .inl (cI, 12, .inl (fun _ => 0)))]) [0, 1, 2, 3, 4, 5, 6, 7, 8, 9, 10, 11, 12, 13, 26, 28, 29, 27, 14, 15, 16, 17, 18, 19, 20, 21, 22, 23, 24, 25] (by decide) rfl
  have hK9 := hK.sub (tys' := [(cB, .byte), (cI, .int), (cJ, .long), (cZ, .boolean), (cS, .object "StreamQueries$Source"), (cO, .object "java/lang/Object")]) [0, 1, 2, 3, 4, 5] rfl
  refine W.widen (k := 29) (n := 11 * c1 + 139) (by omega) (by omega) ?_
  exact W.vret hx hb hr (fun t_ ht hW => ⟨⟨(), rfl, trivial, q1, k3_1, k3_2, k3_3, k3_4, k3_5, k3_6, k3_7, k3_8, k3_9, k3_10, k3_11, q4, q5, l8_1, l8_2, q6, s7_0, s7_1, s7_2, s7_3, s7_4, s7_5, s7_6, s7_7, s7_8, s7_9, s7_10, s7_11, by rw [ht]; exact hP9, va_K.moved hW.alike hK9, hD9⟩, hS.F ht⟩) hS.2.2 dX9_init_52

