def gpF (gw ag : Int32) : Int32 := if gw = -1 then (if ag ≤ 0 then 0 else 1) else 1
theorem dX12_want_0 : decode cX12_want 0 = .ok (.aload_n 0, 1) := by decide +kernel
theorem dX12_want_1 : decode cX12_want 1 = .ok (.getfield 292, 3) := by decide +kernel
theorem dX12_want_4 : decode cX12_want 4 = .ok (.ifCond .eq 33, 3) := by decide +kernel
theorem dX12_want_7 : decode cX12_want 7 = .ok (.aload_n 0, 1) := by decide +kernel
theorem dX12_want_8 : decode cX12_want 8 = .ok (.getfield 76, 3) := by decide +kernel
theorem dX12_want_11 : decode cX12_want 11 = .ok (.iload_n 1, 1) := by decide +kernel
theorem dX12_want_12 : decode cX12_want 12 = .ok (.iaload, 1) := by decide +kernel
theorem dX12_want_13 : decode cX12_want 13 = .ok (.iload_n 2, 1) := by decide +kernel
theorem dX12_want_14 : decode cX12_want 14 = .ok (.if_icmp .eq 23, 3) := by decide +kernel
theorem dX12_want_17 : decode cX12_want 17 = .ok (.aload_n 0, 1) := by decide +kernel
theorem dX12_want_18 : decode cX12_want 18 = .ok (.getfield 76, 3) := by decide +kernel
theorem dX12_want_21 : decode cX12_want 21 = .ok (.iload_n 1, 1) := by decide +kernel
theorem dX12_want_22 : decode cX12_want 22 = .ok (.iaload, 1) := by decide +kernel
theorem dX12_want_23 : decode cX12_want 23 = .ok (.ifCond .eq 14, 3) := by decide +kernel
theorem dX12_want_26 : decode cX12_want 26 = .ok (.aload_n 0, 1) := by decide +kernel
theorem dX12_want_27 : decode cX12_want 27 = .ok (.iconst 4, 1) := by decide +kernel
theorem dX12_want_28 : decode cX12_want 28 = .ok (.aload_n 0, 1) := by decide +kernel
theorem dX12_want_29 : decode cX12_want 29 = .ok (.getfield 70, 3) := by decide +kernel
theorem dX12_want_32 : decode cX12_want 32 = .ok (.iload_n 1, 1) := by decide +kernel
theorem dX12_want_33 : decode cX12_want 33 = .ok (.iaload, 1) := by decide +kernel
theorem dX12_want_34 : decode cX12_want 34 = .ok (.invokevirtual 305, 3) := by decide +kernel
theorem dX12_want_37 : decode cX12_want 37 = .ok (.return_, 1) := by decide +kernel
abbrev cs_t_X12_want_0 (cB cI cJ cZ : ClassId) (h0 : Nat) (a : Nat → Nat) (f : Nat → Int32) (w : Int64) (ty be : Nat → Int32) (e1 : Nat) (y1 : Int32) : va_W := [(h0, .inr (13, moF a f w)), (a 31, .inl (cI, 121, .inl ty)), (a 29, .inl (cI, 121, .inl be))]
abbrev pc_t_X12_want_0 (dC : Nat → ClassId) (dI : Nat → Nat → Nat) (sz : Nat) (cB cI cJ cZ : ClassId) (h0 : Nat) (a : Nat → Nat) (f : Nat → Int32) (w : Int64) (ty be : Nat → Int32) (e1 : Nat) (y1 : Int32) : Array Value → State → Prop := va_Pc [.ref h0, .int (nI e1), .int y1] (fun U => U.heap.size = sz ∧ va_P (dC, dI) vwCl [(h0, .inr (13, moF a f w)), (a 31, .inl (cI, 121, .inl ty)), (a 29, .inl (cI, 121, .inl be))] U.heap ∧ va_K (dC, dI) vwCl [(cB, .byte), (cI, .int), (cJ, .long), (cZ, .boolean)] U ∧ va_D (fun _ => True) [(h0, .inr (13, moF a f w)), (a 31, .inl (cI, 121, .inl ty)), (a 29, .inl (cI, 121, .inl be))])
abbrev qc_t_X12_want_0 (dC : Nat → ClassId) (dI : Nat → Nat → Nat) (cB cI cJ cZ : ClassId) (h0 : Nat) (a : Nat → Nat) (f : Nat → Int32) (w : Int64) (ty be : Nat → Int32) (e1 : Nat) (y1 : Int32) (A : Nat → Prop) : Array Value → State → Outcome → State → Prop := va_Qv (fun (u : Unit) => match u with | _ => True) (fun (u : Unit) t_ => match u with | _ => va_P (dC, dI) vwCl [(h0, .inr (13, moF a f w)), (a 31, .inl (cI, 121, .inl ty)), (a 29, .inl (cI, 121, .inl be))] t_.heap ∧ va_K (dC, dI) vwCl [(cB, .byte), (cI, .int), (cJ, .long), (cZ, .boolean)] t_ ∧ va_D A [(h0, .inr (13, moF a f w)), (a 31, .inl (cI, 121, .inl ty)), (a 29, .inl (cI, 121, .inl be))]) A
set_option maxHeartbeats 4000000 in
set_option maxRecDepth 100000 in
theorem t_X12_want_0 (l : Launch) (dC : Nat → ClassId) (dI : Nat → Nat → Nat) (sz : Nat) (cB cI cJ cZ : ClassId) (h0 : Nat) (a : Nat → Nat) (f : Nat → Int32) (w : Int64) (ty be : Nat → Int32) (e1 : Nat) (y1 : Int32) (hg : f 21 = 0) : Met l yX12_want (wsOf yX12_want cX12_want 3 none) ({ frames := 1, cells := 0, slots := 0, locals := 60 }) (pc_t_X12_want_0 dC dI sz cB cI cJ cZ h0 a f w ty be e1 y1) (qc_t_X12_want_0 dC dI cB cI cJ cZ h0 a f w ty be e1 y1 (va_A (cs_t_X12_want_0 cB cI cJ cZ h0 a f w ty be e1 y1) sz)) 0 0 (va_A (cs_t_X12_want_0 cB cI cJ cZ h0 a f w ty be e1 y1) sz) := by
  refine Met.ofW (cc := cX12_want) (maxL := 3) (ret := none) (by decide) rfl ?_
  intro p e s m args below meth c s₁ B hml hv
  obtain ⟨rfl, hsz, hP, hK, hD0⟩ := hv
  have hx := B.exec
  have hb := B.bytes
  have hr := B.returns
  have hts := atoms_spec (ws := (wsOf yX12_want cX12_want 3 none)) B.pre
  have hown : s.vm.findClass RX12 = some m.cls := findClass_of_methodNamed B.named
  have hlocks := B.notSynchronized
  subst hsz
  have hD := hD0.self (sz := s.heap.size)
  generalize hAe : va_A (cs_t_X12_want_0 cB cI cJ cZ h0 a f w ty be e1 y1) s.heap.size = A at hD ⊢
  have hA : ∀ q : Nat, s.heap.size ≤ q → A q := fun q h => by rw [← hAe]; exact Or.inr h
  have hS : va_S A s.heap s.heap [] := va_S.rf
  have hP : va_P (dC, dI) vwCl [(h0, .inr (13, moF a f w)), (a 31, .inl (cI, 121, .inl ty)), (a 29, .inl (cI, 121, .inl be))] s.heap := hP
  have hl := lv_entry ([.ref h0, .int (nI e1), .int y1]) (n := 3) (Nat.le_of_ble_eq_true rfl)
  rw [lg_entry_eq]
  generalize (lg_sl ([.ref h0, .int (nI e1), .int y1]) ++ List.replicate (3 - (lg_sl ([.ref h0, .int (nI e1), .int y1])).length) Slot.unset).toArray = ls at hl ⊢
  have hl : lv_has ls 3 [(0, .ref h0), (1, .int (nI e1)), (2, .int y1)] := hl
  refine lv_aload_n hx hb dX12_want_0 rfl (lv_at hl 0 rfl) ?_
  refine va_get (D := (dC, dI)) (ci := 13) (v := .int (f 21)) (C := RX12) (T := TX12) (N := 115) hx hb hts (fun w h => List.mem_cons_of_mem _ (uG_X12 w h)) hown hK hP 0 rfl rfl 21 (by decide) (hts _ (List.mem_cons_of_mem _ kw_1712)) (fun _ h9 => h9) rfl dX12_want_1 ?_
  refine lv_if_eq (tgt := 37) hx hb dX12_want_4 (by decide) (fun c_1 => ?_) (fun c_1 => ?_)
  · skip
    have hP9 := hP.sub (ws' := [(h0, .inr (13, moF a f w)), (a 31, .inl (cI, 121, .inl ty)), (a 29, .inl (cI, 121, .inl be))]) [0, 1, 2] rfl
    have hD9 := hD.sub (ws' := [(h0, .inr (13, moF a f w)), (a 31, .inl (cI, 121, .inl ty)), (a 29, .inl (cI, 121, .inl be))]) [0, 1, 2] (by decide) rfl
    have hK9 := hK.sub (tys' := [(cB, .byte), (cI, .int), (cJ, .long), (cZ, .boolean)]) [0, 1, 2, 3] rfl
    exact W.vret hx hb hr (fun t_ ht hW => ⟨⟨(), rfl, trivial, by rw [ht]; exact hP9, va_K.moved hW.alike hK9, hD9⟩, hS.F ht⟩) hS.2.2 dX12_want_37
  · skip
    exact absurd hg c_1
abbrev cs_t_X12_want_y (cB cI cJ cZ : ClassId) (h0 : Nat) (a : Nat → Nat) (f : Nat → Int32) (w : Int64) (ty be : Nat → Int32) (e1 : Nat) (y1 : Int32) : va_W := [(h0, .inr (13, moF a f w)), (a 31, .inl (cI, 121, .inl ty)), (a 29, .inl (cI, 121, .inl be))]
abbrev pc_t_X12_want_y (dC : Nat → ClassId) (dI : Nat → Nat → Nat) (sz : Nat) (cB cI cJ cZ : ClassId) (h0 : Nat) (a : Nat → Nat) (f : Nat → Int32) (w : Int64) (ty be : Nat → Int32) (e1 : Nat) (y1 : Int32) : Array Value → State → Prop := va_Pc [.ref h0, .int (nI e1), .int y1] (fun U => U.heap.size = sz ∧ va_P (dC, dI) vwCl [(h0, .inr (13, moF a f w)), (a 31, .inl (cI, 121, .inl ty)), (a 29, .inl (cI, 121, .inl be))] U.heap ∧ va_K (dC, dI) vwCl [(cB, .byte), (cI, .int), (cJ, .long), (cZ, .boolean)] U ∧ va_D (fun _ => True) [(h0, .inr (13, moF a f w)), (a 31, .inl (cI, 121, .inl ty)), (a 29, .inl (cI, 121, .inl be))])
abbrev qc_t_X12_want_y (dC : Nat → ClassId) (dI : Nat → Nat → Nat) (cB cI cJ cZ : ClassId) (h0 : Nat) (a : Nat → Nat) (f : Nat → Int32) (w : Int64) (ty be : Nat → Int32) (e1 : Nat) (y1 : Int32) (A : Nat → Prop) : Array Value → State → Outcome → State → Prop := va_Qv (fun (u : Unit) => match u with | _ => True) (fun (u : Unit) t_ => match u with | _ => va_P (dC, dI) vwCl [(h0, .inr (13, moF a f w)), (a 31, .inl (cI, 121, .inl ty)), (a 29, .inl (cI, 121, .inl be))] t_.heap ∧ va_K (dC, dI) vwCl [(cB, .byte), (cI, .int), (cJ, .long), (cZ, .boolean)] t_ ∧ va_D A [(h0, .inr (13, moF a f w)), (a 31, .inl (cI, 121, .inl ty)), (a 29, .inl (cI, 121, .inl be))]) A
set_option maxHeartbeats 4000000 in
set_option maxRecDepth 100000 in
theorem t_X12_want_y (l : Launch) (dC : Nat → ClassId) (dI : Nat → Nat → Nat) (sz : Nat) (cB cI cJ cZ : ClassId) (h0 : Nat) (a : Nat → Nat) (f : Nat → Int32) (w : Int64) (ty be : Nat → Int32) (e1 : Nat) (y1 : Int32) (he1 : e1 < 121) (hg : ¬ f 21 = 0) (hy : ty e1 = y1) : Met l yX12_want (wsOf yX12_want cX12_want 3 none) ({ frames := 1, cells := 0, slots := 0, locals := 60 }) (pc_t_X12_want_y dC dI sz cB cI cJ cZ h0 a f w ty be e1 y1) (qc_t_X12_want_y dC dI cB cI cJ cZ h0 a f w ty be e1 y1 (va_A (cs_t_X12_want_y cB cI cJ cZ h0 a f w ty be e1 y1) sz)) 0 0 (va_A (cs_t_X12_want_y cB cI cJ cZ h0 a f w ty be e1 y1) sz) := by
  refine Met.ofW (cc := cX12_want) (maxL := 3) (ret := none) (by decide) rfl ?_
  intro p e s m args below meth c s₁ B hml hv
  obtain ⟨rfl, hsz, hP, hK, hD0⟩ := hv
  have hx := B.exec
  have hb := B.bytes
  have hr := B.returns
  have hts := atoms_spec (ws := (wsOf yX12_want cX12_want 3 none)) B.pre
  have hown : s.vm.findClass RX12 = some m.cls := findClass_of_methodNamed B.named
  have hlocks := B.notSynchronized
  subst hsz
  have hD := hD0.self (sz := s.heap.size)
  generalize hAe : va_A (cs_t_X12_want_y cB cI cJ cZ h0 a f w ty be e1 y1) s.heap.size = A at hD ⊢
  have hA : ∀ q : Nat, s.heap.size ≤ q → A q := fun q h => by rw [← hAe]; exact Or.inr h
  have hS : va_S A s.heap s.heap [] := va_S.rf
  have hP : va_P (dC, dI) vwCl [(h0, .inr (13, moF a f w)), (a 31, .inl (cI, 121, .inl ty)), (a 29, .inl (cI, 121, .inl be))] s.heap := hP
  have hl := lv_entry ([.ref h0, .int (nI e1), .int y1]) (n := 3) (Nat.le_of_ble_eq_true rfl)
  rw [lg_entry_eq]
  generalize (lg_sl ([.ref h0, .int (nI e1), .int y1]) ++ List.replicate (3 - (lg_sl ([.ref h0, .int (nI e1), .int y1])).length) Slot.unset).toArray = ls at hl ⊢
  have hl : lv_has ls 3 [(0, .ref h0), (1, .int (nI e1)), (2, .int y1)] := hl
  refine lv_aload_n hx hb dX12_want_0 rfl (lv_at hl 0 rfl) ?_
  refine va_get (D := (dC, dI)) (ci := 13) (v := .int (f 21)) (C := RX12) (T := TX12) (N := 115) hx hb hts (fun w h => List.mem_cons_of_mem _ (uG_X12 w h)) hown hK hP 0 rfl rfl 21 (by decide) (hts _ (List.mem_cons_of_mem _ kw_1712)) (fun _ h9 => h9) rfl dX12_want_1 ?_
  refine lv_if_eq (tgt := 37) hx hb dX12_want_4 (by decide) (fun c_1 => ?_) (fun c_1 => ?_)
  · skip
    exact absurd c_1 hg
  · skip
    refine lv_aload_n hx hb dX12_want_7 rfl (lv_at hl 0 rfl) ?_
    refine va_get (D := (dC, dI)) (ci := 13) (v := .ref (a 31)) (C := RX12) (T := TX12) (N := 115) hx hb hts (fun w h => List.mem_cons_of_mem _ (uG_X12 w h)) hown hK hP 0 rfl rfl 31 (by decide) (hts _ (List.mem_cons_of_mem _ kw_1722)) (fun _ h9 => h9) rfl dX12_want_8 ?_
    refine lv_iload_n hx hb dX12_want_11 rfl (lv_at hl 1 rfl) ?_
    refine va_iald hx hb hK hP 1 1 rfl rfl (i := (nI e1)) (vp_in_nI (n := e1) (N := 121) (by omega) (by omega)) dX12_want_12 ?_
    refine lv_topi (fun x_2 ex_2 => ?_)
    have ex_2 : x_2 = ty e1 := ex_2.trans (congrArg ty (nI_clamp (n := e1) (by omega)))
    subst ex_2
    refine lv_iload_n hx hb dX12_want_13 rfl (lv_at hl 2 rfl) ?_
    refine lv_icmp_eq (tgt := 37) hx hb dX12_want_14 (by decide) (fun c_3 => ?_) (fun c_3 => ?_)
    · skip
      have hP9 := hP.sub (ws' := [(h0, .inr (13, moF a f w)), (a 31, .inl (cI, 121, .inl ty)), (a 29, .inl (cI, 121, .inl be))]) [0, 1, 2] rfl
      have hD9 := hD.sub (ws' := [(h0, .inr (13, moF a f w)), (a 31, .inl (cI, 121, .inl ty)), (a 29, .inl (cI, 121, .inl be))]) [0, 1, 2] (by decide) rfl
      have hK9 := hK.sub (tys' := [(cB, .byte), (cI, .int), (cJ, .long), (cZ, .boolean)]) [0, 1, 2, 3] rfl
      exact W.vret hx hb hr (fun t_ ht hW => ⟨⟨(), rfl, trivial, by rw [ht]; exact hP9, va_K.moved hW.alike hK9, hD9⟩, hS.F ht⟩) hS.2.2 dX12_want_37
    · skip
      exact absurd hy c_3
abbrev cs_t_X12_want_z (cB cI cJ cZ : ClassId) (h0 : Nat) (a : Nat → Nat) (f : Nat → Int32) (w : Int64) (ty be : Nat → Int32) (e1 : Nat) (y1 : Int32) : va_W := [(h0, .inr (13, moF a f w)), (a 31, .inl (cI, 121, .inl ty)), (a 29, .inl (cI, 121, .inl be))]
abbrev pc_t_X12_want_z (dC : Nat → ClassId) (dI : Nat → Nat → Nat) (sz : Nat) (cB cI cJ cZ : ClassId) (h0 : Nat) (a : Nat → Nat) (f : Nat → Int32) (w : Int64) (ty be : Nat → Int32) (e1 : Nat) (y1 : Int32) : Array Value → State → Prop := va_Pc [.ref h0, .int (nI e1), .int y1] (fun U => U.heap.size = sz ∧ va_P (dC, dI) vwCl [(h0, .inr (13, moF a f w)), (a 31, .inl (cI, 121, .inl ty)), (a 29, .inl (cI, 121, .inl be))] U.heap ∧ va_K (dC, dI) vwCl [(cB, .byte), (cI, .int), (cJ, .long), (cZ, .boolean)] U ∧ va_D (fun _ => True) [(h0, .inr (13, moF a f w)), (a 31, .inl (cI, 121, .inl ty)), (a 29, .inl (cI, 121, .inl be))])
abbrev qc_t_X12_want_z (dC : Nat → ClassId) (dI : Nat → Nat → Nat) (cB cI cJ cZ : ClassId) (h0 : Nat) (a : Nat → Nat) (f : Nat → Int32) (w : Int64) (ty be : Nat → Int32) (e1 : Nat) (y1 : Int32) (A : Nat → Prop) : Array Value → State → Outcome → State → Prop := va_Qv (fun (u : Unit) => match u with | _ => True) (fun (u : Unit) t_ => match u with | _ => va_P (dC, dI) vwCl [(h0, .inr (13, moF a f w)), (a 31, .inl (cI, 121, .inl ty)), (a 29, .inl (cI, 121, .inl be))] t_.heap ∧ va_K (dC, dI) vwCl [(cB, .byte), (cI, .int), (cJ, .long), (cZ, .boolean)] t_ ∧ va_D A [(h0, .inr (13, moF a f w)), (a 31, .inl (cI, 121, .inl ty)), (a 29, .inl (cI, 121, .inl be))]) A
set_option maxHeartbeats 4000000 in
set_option maxRecDepth 100000 in
theorem t_X12_want_z (l : Launch) (dC : Nat → ClassId) (dI : Nat → Nat → Nat) (sz : Nat) (cB cI cJ cZ : ClassId) (h0 : Nat) (a : Nat → Nat) (f : Nat → Int32) (w : Int64) (ty be : Nat → Int32) (e1 : Nat) (y1 : Int32) (he1 : e1 < 121) (hg : ¬ f 21 = 0) (hy : ¬ ty e1 = y1) (hz : ty e1 = 0) : Met l yX12_want (wsOf yX12_want cX12_want 3 none) ({ frames := 1, cells := 0, slots := 0, locals := 60 }) (pc_t_X12_want_z dC dI sz cB cI cJ cZ h0 a f w ty be e1 y1) (qc_t_X12_want_z dC dI cB cI cJ cZ h0 a f w ty be e1 y1 (va_A (cs_t_X12_want_z cB cI cJ cZ h0 a f w ty be e1 y1) sz)) 0 0 (va_A (cs_t_X12_want_z cB cI cJ cZ h0 a f w ty be e1 y1) sz) := by
  refine Met.ofW (cc := cX12_want) (maxL := 3) (ret := none) (by decide) rfl ?_
  intro p e s m args below meth c s₁ B hml hv
  obtain ⟨rfl, hsz, hP, hK, hD0⟩ := hv
  have hx := B.exec
  have hb := B.bytes
  have hr := B.returns
  have hts := atoms_spec (ws := (wsOf yX12_want cX12_want 3 none)) B.pre
  have hown : s.vm.findClass RX12 = some m.cls := findClass_of_methodNamed B.named
  have hlocks := B.notSynchronized
  subst hsz
  have hD := hD0.self (sz := s.heap.size)
  generalize hAe : va_A (cs_t_X12_want_z cB cI cJ cZ h0 a f w ty be e1 y1) s.heap.size = A at hD ⊢
  have hA : ∀ q : Nat, s.heap.size ≤ q → A q := fun q h => by rw [← hAe]; exact Or.inr h
  have hS : va_S A s.heap s.heap [] := va_S.rf
  have hP : va_P (dC, dI) vwCl [(h0, .inr (13, moF a f w)), (a 31, .inl (cI, 121, .inl ty)), (a 29, .inl (cI, 121, .inl be))] s.heap := hP
  have hl := lv_entry ([.ref h0, .int (nI e1), .int y1]) (n := 3) (Nat.le_of_ble_eq_true rfl)
  rw [lg_entry_eq]
  generalize (lg_sl ([.ref h0, .int (nI e1), .int y1]) ++ List.replicate (3 - (lg_sl ([.ref h0, .int (nI e1), .int y1])).length) Slot.unset).toArray = ls at hl ⊢
  have hl : lv_has ls 3 [(0, .ref h0), (1, .int (nI e1)), (2, .int y1)] := hl
  refine lv_aload_n hx hb dX12_want_0 rfl (lv_at hl 0 rfl) ?_
  refine va_get (D := (dC, dI)) (ci := 13) (v := .int (f 21)) (C := RX12) (T := TX12) (N := 115) hx hb hts (fun w h => List.mem_cons_of_mem _ (uG_X12 w h)) hown hK hP 0 rfl rfl 21 (by decide) (hts _ (List.mem_cons_of_mem _ kw_1712)) (fun _ h9 => h9) rfl dX12_want_1 ?_
  refine lv_if_eq (tgt := 37) hx hb dX12_want_4 (by decide) (fun c_1 => ?_) (fun c_1 => ?_)
  · skip
    exact absurd c_1 hg
  · skip
    refine lv_aload_n hx hb dX12_want_7 rfl (lv_at hl 0 rfl) ?_
    refine va_get (D := (dC, dI)) (ci := 13) (v := .ref (a 31)) (C := RX12) (T := TX12) (N := 115) hx hb hts (fun w h => List.mem_cons_of_mem _ (uG_X12 w h)) hown hK hP 0 rfl rfl 31 (by decide) (hts _ (List.mem_cons_of_mem _ kw_1722)) (fun _ h9 => h9) rfl dX12_want_8 ?_
    refine lv_iload_n hx hb dX12_want_11 rfl (lv_at hl 1 rfl) ?_
    refine va_iald hx hb hK hP 1 1 rfl rfl (i := (nI e1)) (vp_in_nI (n := e1) (N := 121) (by omega) (by omega)) dX12_want_12 ?_
    refine lv_topi (fun x_2 ex_2 => ?_)
    have ex_2 : x_2 = ty e1 := ex_2.trans (congrArg ty (nI_clamp (n := e1) (by omega)))
    subst ex_2
    refine lv_iload_n hx hb dX12_want_13 rfl (lv_at hl 2 rfl) ?_
    refine lv_icmp_eq (tgt := 37) hx hb dX12_want_14 (by decide) (fun c_3 => ?_) (fun c_3 => ?_)
    · skip
      exact absurd c_3 hy
    · skip
      refine lv_aload_n hx hb dX12_want_17 rfl (lv_at hl 0 rfl) ?_
      refine va_get (D := (dC, dI)) (ci := 13) (v := .ref (a 31)) (C := RX12) (T := TX12) (N := 115) hx hb hts (fun w h => List.mem_cons_of_mem _ (uG_X12 w h)) hown hK hP 0 rfl rfl 31 (by decide) (hts _ (List.mem_cons_of_mem _ kw_1722)) (fun _ h9 => h9) rfl dX12_want_18 ?_
      refine lv_iload_n hx hb dX12_want_21 rfl (lv_at hl 1 rfl) ?_
      refine va_iald hx hb hK hP 1 1 rfl rfl (i := (nI e1)) (vp_in_nI (n := e1) (N := 121) (by omega) (by omega)) dX12_want_22 ?_
      refine lv_topi (fun x_4 ex_4 => ?_)
      have ex_4 : x_4 = ty e1 := ex_4.trans (congrArg ty (nI_clamp (n := e1) (by omega)))
      subst ex_4
      refine lv_if_eq (tgt := 37) hx hb dX12_want_23 (by decide) (fun c_5 => ?_) (fun c_5 => ?_)
      · skip
        have hP9 := hP.sub (ws' := [(h0, .inr (13, moF a f w)), (a 31, .inl (cI, 121, .inl ty)), (a 29, .inl (cI, 121, .inl be))]) [0, 1, 2] rfl
        have hD9 := hD.sub (ws' := [(h0, .inr (13, moF a f w)), (a 31, .inl (cI, 121, .inl ty)), (a 29, .inl (cI, 121, .inl be))]) [0, 1, 2] (by decide) rfl
        have hK9 := hK.sub (tys' := [(cB, .byte), (cI, .int), (cJ, .long), (cZ, .boolean)]) [0, 1, 2, 3] rfl
        exact W.vret hx hb hr (fun t_ ht hW => ⟨⟨(), rfl, trivial, by rw [ht]; exact hP9, va_K.moved hW.alike hK9, hD9⟩, hS.F ht⟩) hS.2.2 dX12_want_37
      · skip
        exact absurd hz c_5
abbrev cs_t_X12_want_n (cB cI cJ cZ : ClassId) (h0 : Nat) (a : Nat → Nat) (f : Nat → Int32) (w : Int64) (ty be : Nat → Int32) (e1 : Nat) (y1 : Int32) : va_W := [(h0, .inr (13, moF a f w)), (a 31, .inl (cI, 121, .inl ty)), (a 29, .inl (cI, 121, .inl be))]
abbrev pc_t_X12_want_n (dC : Nat → ClassId) (dI : Nat → Nat → Nat) (sz : Nat) (cB cI cJ cZ : ClassId) (h0 : Nat) (a : Nat → Nat) (f : Nat → Int32) (w : Int64) (ty be : Nat → Int32) (e1 : Nat) (y1 : Int32) : Array Value → State → Prop := va_Pc [.ref h0, .int (nI e1), .int y1] (fun U => U.heap.size = sz ∧ va_P (dC, dI) vwCl [(h0, .inr (13, moF a f w)), (a 31, .inl (cI, 121, .inl ty)), (a 29, .inl (cI, 121, .inl be))] U.heap ∧ va_K (dC, dI) vwCl [(cB, .byte), (cI, .int), (cJ, .long), (cZ, .boolean)] U ∧ va_D (fun _ => True) [(h0, .inr (13, moF a f w)), (a 31, .inl (cI, 121, .inl ty)), (a 29, .inl (cI, 121, .inl be))])
abbrev qc_t_X12_want_n (dC : Nat → ClassId) (dI : Nat → Nat → Nat) (cB cI cJ cZ : ClassId) (h0 : Nat) (a : Nat → Nat) (f : Nat → Int32) (w : Int64) (ty be : Nat → Int32) (e1 : Nat) (y1 : Int32) (A : Nat → Prop) : Array Value → State → Outcome → State → Prop := va_Qv (fun (u : Unit) => match u with | _ => True) (fun (u : Unit) t_ => match u with | _ => va_P (dC, dI) vwCl [(h0, .inr (13, moF a (upd (upd (upd f 21 0) 19 4) 20 (be e1)) w)), (a 31, .inl (cI, 121, .inl ty)), (a 29, .inl (cI, 121, .inl be))] t_.heap ∧ va_K (dC, dI) vwCl [(cB, .byte), (cI, .int), (cJ, .long), (cZ, .boolean)] t_ ∧ va_D A [(h0, .inr (13, moF a (upd (upd (upd f 21 0) 19 4) 20 (be e1)) w)), (a 31, .inl (cI, 121, .inl ty)), (a 29, .inl (cI, 121, .inl be))]) A
set_option maxHeartbeats 4000000 in
set_option maxRecDepth 100000 in
theorem t_X12_want_n (l : Launch) (dC : Nat → ClassId) (dI : Nat → Nat → Nat) (sz : Nat) (cB cI cJ cZ : ClassId) (h0 : Nat) (a : Nat → Nat) (f : Nat → Int32) (w : Int64) (ty be : Nat → Int32) (e1 : Nat) (y1 : Int32) (he1 : e1 < 121) (hg : ¬ f 21 = 0) (hy : ¬ ty e1 = y1) (hz : ¬ ty e1 = 0) : Met l yX12_want (wsOf yX12_want cX12_want 3 none) ({ frames := 1, cells := 0, slots := 0, locals := 60 }) (pc_t_X12_want_n dC dI sz cB cI cJ cZ h0 a f w ty be e1 y1) (qc_t_X12_want_n dC dI cB cI cJ cZ h0 a f w ty be e1 y1 (va_A (cs_t_X12_want_n cB cI cJ cZ h0 a f w ty be e1 y1) sz)) 0 0 (va_A (cs_t_X12_want_n cB cI cJ cZ h0 a f w ty be e1 y1) sz) := by
  refine Met.ofW (cc := cX12_want) (maxL := 3) (ret := none) (by decide) rfl ?_
  intro p e s m args below meth c s₁ B hml hv
  obtain ⟨rfl, hsz, hP, hK, hD0⟩ := hv
  have hx := B.exec
  have hb := B.bytes
  have hr := B.returns
  have hts := atoms_spec (ws := (wsOf yX12_want cX12_want 3 none)) B.pre
  have hown : s.vm.findClass RX12 = some m.cls := findClass_of_methodNamed B.named
  have hlocks := B.notSynchronized
  subst hsz
  have hD := hD0.self (sz := s.heap.size)
  generalize hAe : va_A (cs_t_X12_want_n cB cI cJ cZ h0 a f w ty be e1 y1) s.heap.size = A at hD ⊢
  have hA : ∀ q : Nat, s.heap.size ≤ q → A q := fun q h => by rw [← hAe]; exact Or.inr h
  have hS : va_S A s.heap s.heap [] := va_S.rf
  have hP : va_P (dC, dI) vwCl [(h0, .inr (13, moF a f w)), (a 31, .inl (cI, 121, .inl ty)), (a 29, .inl (cI, 121, .inl be))] s.heap := hP
  have hl := lv_entry ([.ref h0, .int (nI e1), .int y1]) (n := 3) (Nat.le_of_ble_eq_true rfl)
  rw [lg_entry_eq]
  generalize (lg_sl ([.ref h0, .int (nI e1), .int y1]) ++ List.replicate (3 - (lg_sl ([.ref h0, .int (nI e1), .int y1])).length) Slot.unset).toArray = ls at hl ⊢
  have hl : lv_has ls 3 [(0, .ref h0), (1, .int (nI e1)), (2, .int y1)] := hl
  refine lv_aload_n hx hb dX12_want_0 rfl (lv_at hl 0 rfl) ?_
  refine va_get (D := (dC, dI)) (ci := 13) (v := .int (f 21)) (C := RX12) (T := TX12) (N := 115) hx hb hts (fun w h => List.mem_cons_of_mem _ (uG_X12 w h)) hown hK hP 0 rfl rfl 21 (by decide) (hts _ (List.mem_cons_of_mem _ kw_1712)) (fun _ h9 => h9) rfl dX12_want_1 ?_
  refine lv_if_eq (tgt := 37) hx hb dX12_want_4 (by decide) (fun c_1 => ?_) (fun c_1 => ?_)
  · skip
    exact absurd c_1 hg
  · skip
    refine lv_aload_n hx hb dX12_want_7 rfl (lv_at hl 0 rfl) ?_
    refine va_get (D := (dC, dI)) (ci := 13) (v := .ref (a 31)) (C := RX12) (T := TX12) (N := 115) hx hb hts (fun w h => List.mem_cons_of_mem _ (uG_X12 w h)) hown hK hP 0 rfl rfl 31 (by decide) (hts _ (List.mem_cons_of_mem _ kw_1722)) (fun _ h9 => h9) rfl dX12_want_8 ?_
    refine lv_iload_n hx hb dX12_want_11 rfl (lv_at hl 1 rfl) ?_
    refine va_iald hx hb hK hP 1 1 rfl rfl (i := (nI e1)) (vp_in_nI (n := e1) (N := 121) (by omega) (by omega)) dX12_want_12 ?_
    refine lv_topi (fun x_2 ex_2 => ?_)
    have ex_2 : x_2 = ty e1 := ex_2.trans (congrArg ty (nI_clamp (n := e1) (by omega)))
    subst ex_2
    refine lv_iload_n hx hb dX12_want_13 rfl (lv_at hl 2 rfl) ?_
    refine lv_icmp_eq (tgt := 37) hx hb dX12_want_14 (by decide) (fun c_3 => ?_) (fun c_3 => ?_)
    · skip
      exact absurd c_3 hy
    · skip
      refine lv_aload_n hx hb dX12_want_17 rfl (lv_at hl 0 rfl) ?_
      refine va_get (D := (dC, dI)) (ci := 13) (v := .ref (a 31)) (C := RX12) (T := TX12) (N := 115) hx hb hts (fun w h => List.mem_cons_of_mem _ (uG_X12 w h)) hown hK hP 0 rfl rfl 31 (by decide) (hts _ (List.mem_cons_of_mem _ kw_1722)) (fun _ h9 => h9) rfl dX12_want_18 ?_
      refine lv_iload_n hx hb dX12_want_21 rfl (lv_at hl 1 rfl) ?_
      refine va_iald hx hb hK hP 1 1 rfl rfl (i := (nI e1)) (vp_in_nI (n := e1) (N := 121) (by omega) (by omega)) dX12_want_22 ?_
      refine lv_topi (fun x_4 ex_4 => ?_)
      have ex_4 : x_4 = ty e1 := ex_4.trans (congrArg ty (nI_clamp (n := e1) (by omega)))
      subst ex_4
      refine lv_if_eq (tgt := 37) hx hb dX12_want_23 (by decide) (fun c_5 => ?_) (fun c_5 => ?_)
      · skip
        exact absurd c_5 hz
      · skip
        refine lv_aload_n hx hb dX12_want_26 rfl (lv_at hl 0 rfl) ?_
        refine lv_iconst (v := 4) hx hb dX12_want_27 (by decide) ?_
        refine lv_aload_n hx hb dX12_want_28 rfl (lv_at hl 0 rfl) ?_
        refine va_get (D := (dC, dI)) (ci := 13) (v := .ref (a 29)) (C := RX12) (T := TX12) (N := 115) hx hb hts (fun w h => List.mem_cons_of_mem _ (uG_X12 w h)) hown hK hP 0 rfl rfl 29 (by decide) (hts _ (List.mem_cons_of_mem _ kw_1720)) (fun _ h9 => h9) rfl dX12_want_29 ?_
        refine lv_iload_n hx hb dX12_want_32 rfl (lv_at hl 1 rfl) ?_
        refine va_iald hx hb hK hP 2 1 rfl rfl (i := (nI e1)) (vp_in_nI (n := e1) (N := 121) (by omega) (by omega)) dX12_want_33 ?_
        refine lv_topi (fun x_6 ex_6 => ?_)
        have ex_6 : x_6 = be e1 := ex_6.trans (congrArg be (nI_clamp (n := e1) (by omega)))
        subst ex_6
        have hPc := hP.sub (ws' := [(h0, .inr (13, moF a f w))]) [0] rfl
        have hDc := hD.sub (ws' := [(h0, .inr (13, moF a f w))]) [0] (by decide) rfl
        have hKc := hK.sub (tys' := [(cB, .byte), (cI, .int), (cJ, .long), (cZ, .boolean)]) [0, 1, 2, 3] rfl
        have hFc := va_free (wc := [(h0, .inr (13, moF a f w))]) hD hS hA [0] rfl
        refine va_callv (va_runV (As := [.int 4, .int (be e1)]) (rest := []) ⟨hx, hb, hml, hown, hts⟩ (t_X12_tell_1 l dC dI s.heap.size cB cI cJ cZ h0 a f w 4 (be e1) hg) (cwV 2 hts (gd_all (in_V kw_2269 kw_2271 kw_141 kw_191 kc_X12_tell)) rfl rfl rfl (by decide +kernel) ⟨Nat.le_of_ble_eq_true rfl, Nat.le_of_ble_eq_true rfl⟩) ⟨fun a U g mk q => by obtain ⟨q0, q1, qP, qK, qD⟩ := q; exact ⟨q0, q1, qP, va_K.moved (u := U) (U := U.calling g mk a) (Vm.Alike.refl U.vm) qK, qD⟩, va_recv hKc hPc (ci := 13) (q0 := 0) rfl rfl, fun U hU hW => ⟨rfl, by rw [hU], by rw [hU]; exact hPc, va_K.moved hW.alike hKc, hDc.weaken (fun _ _ _ _ => trivial)⟩⟩ rfl rfl hl.1 rfl (lv_room (Nat.le_of_ble_eq_true rfl)) dX12_want_34 ⟨Nat.le_of_ble_eq_true rfl, Nat.le_of_ble_eq_true rfl⟩) hS (fun q _ h => hFc q h) hFc (fun u t_ H1 locs ht hvm hw hB hz1 hk1 hS => ?_)
        obtain ⟨hP1, hK1, hD1⟩ := hB
        rw [ht] at hP1
        have hK1 := va_K.moved hvm.symm hK1
        obtain ⟨hP, hD⟩ := va_join (wr := [(a 31, .inl (cI, 121, .inl ty)), (a 29, .inl (cI, 121, .inl be))]) (w1 := [(h0, .inr (13, moF a (upd (upd (upd f 21 0) 19 4) 20 (be e1)) w))]) hP hD [0] [1, 2] rfl rfl (by decide) (by decide) hk1 hFc hP1 hD1
        have hK := (hK.sub (tys' := []) [] rfl).app hK1
        generalize H1 = H at hP hS ⊢
        have hP : va_P (dC, dI) vwCl [(a 31, .inl (cI, 121, .inl ty)), (a 29, .inl (cI, 121, .inl be)), (h0, .inr (13, moF a (upd (upd (upd f 21 0) 19 4) 20 (be e1)) w))] H := hP
        have hD : va_D A [(a 31, .inl (cI, 121, .inl ty)), (a 29, .inl (cI, 121, .inl be)), (h0, .inr (13, moF a (upd (upd (upd f 21 0) 19 4) 20 (be e1)) w))] := hD
        have hK : va_K (dC, dI) vwCl [(cB, .byte), (cI, .int), (cJ, .long), (cZ, .boolean)] s := hK
        have hP9 := hP.sub (ws' := [(h0, .inr (13, moF a (upd (upd (upd f 21 0) 19 4) 20 (be e1)) w)), (a 31, .inl (cI, 121, .inl ty)), (a 29, .inl (cI, 121, .inl be))]) [2, 0, 1] rfl
        have hD9 := hD.sub (ws' := [(h0, .inr (13, moF a (upd (upd (upd f 21 0) 19 4) 20 (be e1)) w)), (a 31, .inl (cI, 121, .inl ty)), (a 29, .inl (cI, 121, .inl be))]) [2, 0, 1] (by decide) rfl
        have hK9 := hK.sub (tys' := [(cB, .byte), (cI, .int), (cJ, .long), (cZ, .boolean)]) [0, 1, 2, 3] rfl
        exact W.vret hx hb hr (fun t_ ht hW => ⟨⟨(), rfl, trivial, by rw [ht]; exact hP9, va_K.moved hW.alike hK9, hD9⟩, hS.F ht⟩) hS.2.2 dX12_want_37
theorem dX12_isGrouped_0 : decode cX12_isGrouped 0 = .ok (.aload_n 0, 1) := by decide +kernel
theorem dX12_isGrouped_1 : decode cX12_isGrouped 1 = .ok (.getfield 100, 3) := by decide +kernel
theorem dX12_isGrouped_4 : decode cX12_isGrouped 4 = .ok (.iload_n 1, 1) := by decide +kernel
theorem dX12_isGrouped_5 : decode cX12_isGrouped 5 = .ok (.iaload, 1) := by decide +kernel
theorem dX12_isGrouped_6 : decode cX12_isGrouped 6 = .ok (.iconst (-1), 1) := by decide +kernel
theorem dX12_isGrouped_7 : decode cX12_isGrouped 7 = .ok (.if_icmp .ne 12, 3) := by decide +kernel
theorem dX12_isGrouped_10 : decode cX12_isGrouped 10 = .ok (.aload_n 0, 1) := by decide +kernel
theorem dX12_isGrouped_11 : decode cX12_isGrouped 11 = .ok (.getfield 106, 3) := by decide +kernel
theorem dX12_isGrouped_14 : decode cX12_isGrouped 14 = .ok (.iload_n 1, 1) := by decide +kernel
theorem dX12_isGrouped_15 : decode cX12_isGrouped 15 = .ok (.iaload, 1) := by decide +kernel
theorem dX12_isGrouped_16 : decode cX12_isGrouped 16 = .ok (.ifCond .le 7, 3) := by decide +kernel
theorem dX12_isGrouped_19 : decode cX12_isGrouped 19 = .ok (.iconst 1, 1) := by decide +kernel
theorem dX12_isGrouped_20 : decode cX12_isGrouped 20 = .ok (.goto 4, 3) := by decide +kernel
theorem dX12_isGrouped_23 : decode cX12_isGrouped 23 = .ok (.iconst 0, 1) := by decide +kernel
theorem dX12_isGrouped_24 : decode cX12_isGrouped 24 = .ok (.ireturn, 1) := by decide +kernel
abbrev cs_t_X12_isGrouped (cB cI cJ cZ : ClassId) (h0 : Nat) (a : Nat → Nat) (f : Nat → Int32) (w : Int64) (gw ag : Nat → Int32) (s1 : Nat) : va_W := [(h0, .inr (13, moF a f w)), (a 40, .inl (cI, 60, .inl gw)), (a 42, .inl (cI, 60, .inl ag))]
abbrev pc_t_X12_isGrouped (dC : Nat → ClassId) (dI : Nat → Nat → Nat) (sz : Nat) (cB cI cJ cZ : ClassId) (h0 : Nat) (a : Nat → Nat) (f : Nat → Int32) (w : Int64) (gw ag : Nat → Int32) (s1 : Nat) : Array Value → State → Prop := va_Pc [.ref h0, .int (nI s1)] (fun U => U.heap.size = sz ∧ va_P (dC, dI) vwCl [(h0, .inr (13, moF a f w)), (a 40, .inl (cI, 60, .inl gw)), (a 42, .inl (cI, 60, .inl ag))] U.heap ∧ va_K (dC, dI) vwCl [(cB, .byte), (cI, .int), (cJ, .long), (cZ, .boolean)] U ∧ va_D (fun _ => True) [(h0, .inr (13, moF a f w)), (a 40, .inl (cI, 60, .inl gw)), (a 42, .inl (cI, 60, .inl ag))])
abbrev qc_t_X12_isGrouped (dC : Nat → ClassId) (dI : Nat → Nat → Nat) (cB cI cJ cZ : ClassId) (h0 : Nat) (a : Nat → Nat) (f : Nat → Int32) (w : Int64) (gw ag : Nat → Int32) (s1 : Nat) (A : Nat → Prop) : Array Value → State → Outcome → State → Prop := va_Qi (fun (r : Int32) (u : Unit) => match u with | _ => r = gpF (gw s1) (ag s1)) (fun (u : Unit) t_ => match u with | _ => va_P (dC, dI) vwCl [(h0, .inr (13, moF a f w)), (a 40, .inl (cI, 60, .inl gw)), (a 42, .inl (cI, 60, .inl ag))] t_.heap ∧ va_K (dC, dI) vwCl [(cB, .byte), (cI, .int), (cJ, .long), (cZ, .boolean)] t_ ∧ va_D A [(h0, .inr (13, moF a f w)), (a 40, .inl (cI, 60, .inl gw)), (a 42, .inl (cI, 60, .inl ag))]) A
set_option maxHeartbeats 4000000 in
set_option maxRecDepth 100000 in
theorem t_X12_isGrouped (l : Launch) (dC : Nat → ClassId) (dI : Nat → Nat → Nat) (sz : Nat) (cB cI cJ cZ : ClassId) (h0 : Nat) (a : Nat → Nat) (f : Nat → Int32) (w : Int64) (gw ag : Nat → Int32) (s1 : Nat) (hs1 : s1 < 60) : Met l yX12_isGrouped (wsOf yX12_isGrouped cX12_isGrouped 2 (some .boolean)) ({ frames := 0, cells := 0, slots := 0, locals := 0 }) (pc_t_X12_isGrouped dC dI sz cB cI cJ cZ h0 a f w gw ag s1) (qc_t_X12_isGrouped dC dI cB cI cJ cZ h0 a f w gw ag s1 (va_A (cs_t_X12_isGrouped cB cI cJ cZ h0 a f w gw ag s1) sz)) 0 0 (va_A (cs_t_X12_isGrouped cB cI cJ cZ h0 a f w gw ag s1) sz) := by
  refine Met.ofW (cc := cX12_isGrouped) (maxL := 2) (ret := (some .boolean)) (by decide) rfl ?_
  intro p e s m args below meth c s₁ B hml hv
  obtain ⟨rfl, hsz, hP, hK, hD0⟩ := hv
  have hx := B.exec
  have hb := B.bytes
  have hr := B.returns
  have hts := atoms_spec (ws := (wsOf yX12_isGrouped cX12_isGrouped 2 (some .boolean))) B.pre
  have hown : s.vm.findClass RX12 = some m.cls := findClass_of_methodNamed B.named
  have hlocks := B.notSynchronized
  subst hsz
  have hD := hD0.self (sz := s.heap.size)
  generalize hAe : va_A (cs_t_X12_isGrouped cB cI cJ cZ h0 a f w gw ag s1) s.heap.size = A at hD ⊢
  have hA : ∀ q : Nat, s.heap.size ≤ q → A q := fun q h => by rw [← hAe]; exact Or.inr h
  have hS : va_S A s.heap s.heap [] := va_S.rf
  have hP : va_P (dC, dI) vwCl [(h0, .inr (13, moF a f w)), (a 40, .inl (cI, 60, .inl gw)), (a 42, .inl (cI, 60, .inl ag))] s.heap := hP
  have hl := lv_entry ([.ref h0, .int (nI s1)]) (n := 2) (Nat.le_of_ble_eq_true rfl)
  rw [lg_entry_eq]
  generalize (lg_sl ([.ref h0, .int (nI s1)]) ++ List.replicate (2 - (lg_sl ([.ref h0, .int (nI s1)])).length) Slot.unset).toArray = ls at hl ⊢
  have hl : lv_has ls 2 [(0, .ref h0), (1, .int (nI s1))] := hl
  refine lv_aload_n hx hb dX12_isGrouped_0 rfl (lv_at hl 0 rfl) ?_
  refine va_get (D := (dC, dI)) (ci := 13) (v := .ref (a 40)) (C := RX12) (T := TX12) (N := 115) hx hb hts (fun w h => List.mem_cons_of_mem _ (uG_X12 w h)) hown hK hP 0 rfl rfl 40 (by decide) (hts _ (List.mem_cons_of_mem _ kw_1731)) (fun _ h9 => h9) rfl dX12_isGrouped_1 ?_
  refine lv_iload_n hx hb dX12_isGrouped_4 rfl (lv_at hl 1 rfl) ?_
  refine va_iald hx hb hK hP 1 1 rfl rfl (i := (nI s1)) (vp_in_nI (n := s1) (N := 60) (by omega) (by omega)) dX12_isGrouped_5 ?_
  refine lv_topi (fun x_1 ex_1 => ?_)
  have ex_1 : x_1 = gw s1 := ex_1.trans (congrArg gw (nI_clamp (n := s1) (by omega)))
  subst ex_1
  refine lv_iconst (v := (-1)) hx hb dX12_isGrouped_6 (by decide) ?_
  refine lv_icmp_ne (tgt := 19) hx hb dX12_isGrouped_7 (by decide) (fun c_2 => ?_) (fun c_2 => ?_)
  · skip
    refine lv_iconst (v := 1) hx hb dX12_isGrouped_19 (by decide) ?_
    refine lv_goto (tgt := 24) hx hb dX12_isGrouped_20 (by decide) ?_
    have hP9 := hP.sub (ws' := [(h0, .inr (13, moF a f w)), (a 40, .inl (cI, 60, .inl gw)), (a 42, .inl (cI, 60, .inl ag))]) [0, 1, 2] rfl
    have hD9 := hD.sub (ws' := [(h0, .inr (13, moF a f w)), (a 40, .inl (cI, 60, .inl gw)), (a 42, .inl (cI, 60, .inl ag))]) [0, 1, 2] (by decide) rfl
    have hK9 := hK.sub (tys' := [(cB, .byte), (cI, .int), (cJ, .long), (cZ, .boolean)]) [0, 1, 2, 3] rfl
    exact W.zret (v := 1) hx hb hr (by rfl) (fun t_ ht hW => ⟨⟨1, (), rfl, by unfold gpF; rw [if_neg c_2], by rw [ht]; exact hP9, va_K.moved hW.alike hK9, hD9⟩, hS.F ht⟩) hS.2.2 dX12_isGrouped_24
  · skip
    refine lv_aload_n hx hb dX12_isGrouped_10 rfl (lv_at hl 0 rfl) ?_
    refine va_get (D := (dC, dI)) (ci := 13) (v := .ref (a 42)) (C := RX12) (T := TX12) (N := 115) hx hb hts (fun w h => List.mem_cons_of_mem _ (uG_X12 w h)) hown hK hP 0 rfl rfl 42 (by decide) (hts _ (List.mem_cons_of_mem _ kw_1733)) (fun _ h9 => h9) rfl dX12_isGrouped_11 ?_
    refine lv_iload_n hx hb dX12_isGrouped_14 rfl (lv_at hl 1 rfl) ?_
    refine va_iald hx hb hK hP 2 1 rfl rfl (i := (nI s1)) (vp_in_nI (n := s1) (N := 60) (by omega) (by omega)) dX12_isGrouped_15 ?_
    refine lv_topi (fun x_3 ex_3 => ?_)
    have ex_3 : x_3 = ag s1 := ex_3.trans (congrArg ag (nI_clamp (n := s1) (by omega)))
    subst ex_3
    refine lv_if_le (tgt := 23) hx hb dX12_isGrouped_16 (by decide) (fun c_4 => ?_) (fun c_4 => ?_)
    · skip
      refine lv_iconst (v := 0) hx hb dX12_isGrouped_23 (by decide) ?_
      have hP9 := hP.sub (ws' := [(h0, .inr (13, moF a f w)), (a 40, .inl (cI, 60, .inl gw)), (a 42, .inl (cI, 60, .inl ag))]) [0, 1, 2] rfl
      have hD9 := hD.sub (ws' := [(h0, .inr (13, moF a f w)), (a 40, .inl (cI, 60, .inl gw)), (a 42, .inl (cI, 60, .inl ag))]) [0, 1, 2] (by decide) rfl
      have hK9 := hK.sub (tys' := [(cB, .byte), (cI, .int), (cJ, .long), (cZ, .boolean)]) [0, 1, 2, 3] rfl
      exact W.zret (v := 0) hx hb hr (by rfl) (fun t_ ht hW => ⟨⟨0, (), rfl, by unfold gpF; rw [if_pos c_2, if_pos c_4], by rw [ht]; exact hP9, va_K.moved hW.alike hK9, hD9⟩, hS.F ht⟩) hS.2.2 dX12_isGrouped_24
    · skip
      refine lv_iconst (v := 1) hx hb dX12_isGrouped_19 (by decide) ?_
      refine lv_goto (tgt := 24) hx hb dX12_isGrouped_20 (by decide) ?_
      have hP9 := hP.sub (ws' := [(h0, .inr (13, moF a f w)), (a 40, .inl (cI, 60, .inl gw)), (a 42, .inl (cI, 60, .inl ag))]) [0, 1, 2] rfl
      have hD9 := hD.sub (ws' := [(h0, .inr (13, moF a f w)), (a 40, .inl (cI, 60, .inl gw)), (a 42, .inl (cI, 60, .inl ag))]) [0, 1, 2] (by decide) rfl
      have hK9 := hK.sub (tys' := [(cB, .byte), (cI, .int), (cJ, .long), (cZ, .boolean)]) [0, 1, 2, 3] rfl
      exact W.zret (v := 1) hx hb hr (by rfl) (fun t_ ht hW => ⟨⟨1, (), rfl, by unfold gpF; rw [if_pos c_2, if_neg c_4], by rw [ht]; exact hP9, va_K.moved hW.alike hK9, hD9⟩, hS.F ht⟩) hS.2.2 dX12_isGrouped_24
theorem dX9_columnType_0 : decode cX9_columnType 0 = .ok (.aload_n 0, 1) := by decide +kernel
theorem dX9_columnType_1 : decode cX9_columnType 1 = .ok (.getfield 44, 3) := by decide +kernel
theorem dX9_columnType_4 : decode cX9_columnType 4 = .ok (.getfield 63, 3) := by decide +kernel
theorem dX9_columnType_7 : decode cX9_columnType 7 = .ok (.iload_n 1, 1) := by decide +kernel
theorem dX9_columnType_8 : decode cX9_columnType 8 = .ok (.invokevirtual 67, 3) := by decide +kernel
theorem dX9_columnType_11 : decode cX9_columnType 11 = .ok (.ifCond .eq 18, 3) := by decide +kernel
theorem dX9_columnType_14 : decode cX9_columnType 14 = .ok (.aload_n 0, 1) := by decide +kernel
theorem dX9_columnType_15 : decode cX9_columnType 15 = .ok (.getfield 44, 3) := by decide +kernel
theorem dX9_columnType_18 : decode cX9_columnType 18 = .ok (.getfield 63, 3) := by decide +kernel
theorem dX9_columnType_21 : decode cX9_columnType 21 = .ok (.getfield 72, 3) := by decide +kernel
theorem dX9_columnType_24 : decode cX9_columnType 24 = .ok (.iload_n 1, 1) := by decide +kernel
theorem dX9_columnType_25 : decode cX9_columnType 25 = .ok (.iaload, 1) := by decide +kernel
theorem dX9_columnType_26 : decode cX9_columnType 26 = .ok (.goto 4, 3) := by decide +kernel
theorem dX9_columnType_29 : decode cX9_columnType 29 = .ok (.iconst 0, 1) := by decide +kernel
theorem dX9_columnType_30 : decode cX9_columnType 30 = .ok (.ireturn, 1) := by decide +kernel
abbrev cs_t_X9_columnType_in (cB cI cJ cZ : ClassId) (h0 hY hZ hR hM hMk hT s1 : Nat) (rt : Nat → Int32) (nn : Nat → Int64) (mk ty : Nat → Int32) (e0 e1 e4 e5 e8 e9 e11 u3 u4 u5 : Int32) (g2 g6 g7 g10 u0 u2 : Value) (i : Nat) : va_W := [(h0, .inr (10, [.int e0, .int e1, g2, .ref hY, .int e4, .int e5, g6, g7, .int e8, .int e9, g10, .int e11])), (hY, .inr (4, [u0, .ref hZ, u2, .int u3, .int u4, .int u5])), (hZ, .inr (3, [.int (nI s1), .ref hR, .ref hM, .ref hMk, .ref hT])), (hR, .inl (cI, 8, .inl rt)), (hM, .inl (cJ, 8, .inr (.inl nn))), (hMk, .inl (cI, 8, .inl mk)), (hT, .inl (cI, 8, .inl ty))]
abbrev pc_t_X9_columnType_in (dC : Nat → ClassId) (dI : Nat → Nat → Nat) (sz : Nat) (cB cI cJ cZ : ClassId) (h0 hY hZ hR hM hMk hT s1 : Nat) (rt : Nat → Int32) (nn : Nat → Int64) (mk ty : Nat → Int32) (e0 e1 e4 e5 e8 e9 e11 u3 u4 u5 : Int32) (g2 g6 g7 g10 u0 u2 : Value) (i : Nat) : Array Value → State → Prop := va_Pc [.ref h0, .int (nI i)] (fun U => U.heap.size = sz ∧ va_P (dC, dI) vwCl [(h0, .inr (10, [.int e0, .int e1, g2, .ref hY, .int e4, .int e5, g6, g7, .int e8, .int e9, g10, .int e11])), (hY, .inr (4, [u0, .ref hZ, u2, .int u3, .int u4, .int u5])), (hZ, .inr (3, [.int (nI s1), .ref hR, .ref hM, .ref hMk, .ref hT])), (hR, .inl (cI, 8, .inl rt)), (hM, .inl (cJ, 8, .inr (.inl nn))), (hMk, .inl (cI, 8, .inl mk)), (hT, .inl (cI, 8, .inl ty))] U.heap ∧ va_K (dC, dI) vwCl [(cB, .byte), (cI, .int), (cJ, .long), (cZ, .boolean)] U ∧ va_D (fun _ => True) [(h0, .inr (10, [.int e0, .int e1, g2, .ref hY, .int e4, .int e5, g6, g7, .int e8, .int e9, g10, .int e11])), (hY, .inr (4, [u0, .ref hZ, u2, .int u3, .int u4, .int u5])), (hZ, .inr (3, [.int (nI s1), .ref hR, .ref hM, .ref hMk, .ref hT])), (hR, .inl (cI, 8, .inl rt)), (hM, .inl (cJ, 8, .inr (.inl nn))), (hMk, .inl (cI, 8, .inl mk)), (hT, .inl (cI, 8, .inl ty))])
abbrev qc_t_X9_columnType_in (dC : Nat → ClassId) (dI : Nat → Nat → Nat) (cB cI cJ cZ : ClassId) (h0 hY hZ hR hM hMk hT s1 : Nat) (rt : Nat → Int32) (nn : Nat → Int64) (mk ty : Nat → Int32) (e0 e1 e4 e5 e8 e9 e11 u3 u4 u5 : Int32) (g2 g6 g7 g10 u0 u2 : Value) (i : Nat) (A : Nat → Prop) : Array Value → State → Outcome → State → Prop := va_Qi (fun (r : Int32) (u : Unit) => match u with | _ => r = ty i) (fun (u : Unit) t_ => match u with | _ => va_P (dC, dI) vwCl [(h0, .inr (10, [.int e0, .int e1, g2, .ref hY, .int e4, .int e5, g6, g7, .int e8, .int e9, g10, .int e11])), (hY, .inr (4, [u0, .ref hZ, u2, .int u3, .int u4, .int u5])), (hZ, .inr (3, [.int (nI s1), .ref hR, .ref hM, .ref hMk, .ref hT])), (hR, .inl (cI, 8, .inl rt)), (hM, .inl (cJ, 8, .inr (.inl nn))), (hMk, .inl (cI, 8, .inl mk)), (hT, .inl (cI, 8, .inl ty))] t_.heap ∧ va_K (dC, dI) vwCl [(cB, .byte), (cI, .int), (cJ, .long), (cZ, .boolean)] t_ ∧ va_D A [(h0, .inr (10, [.int e0, .int e1, g2, .ref hY, .int e4, .int e5, g6, g7, .int e8, .int e9, g10, .int e11])), (hY, .inr (4, [u0, .ref hZ, u2, .int u3, .int u4, .int u5])), (hZ, .inr (3, [.int (nI s1), .ref hR, .ref hM, .ref hMk, .ref hT])), (hR, .inl (cI, 8, .inl rt)), (hM, .inl (cJ, 8, .inr (.inl nn))), (hMk, .inl (cI, 8, .inl mk)), (hT, .inl (cI, 8, .inl ty))]) A
set_option maxHeartbeats 4000000 in
set_option maxRecDepth 100000 in
theorem t_X9_columnType_in (l : Launch) (dC : Nat → ClassId) (dI : Nat → Nat → Nat) (sz : Nat) (cB cI cJ cZ : ClassId) (h0 hY hZ hR hM hMk hT s1 : Nat) (rt : Nat → Int32) (nn : Nat → Int64) (mk ty : Nat → Int32) (e0 e1 e4 e5 e8 e9 e11 u3 u4 u5 : Int32) (g2 g6 g7 g10 u0 u2 : Value) (i : Nat) (hs : s1 ≤ 8) (hi : i < s1) : Met l yX9_columnType (wsOf yX9_columnType cX9_columnType 2 (some .int)) ({ frames := 1, cells := 0, slots := 0, locals := 60 }) (pc_t_X9_columnType_in dC dI sz cB cI cJ cZ h0 hY hZ hR hM hMk hT s1 rt nn mk ty e0 e1 e4 e5 e8 e9 e11 u3 u4 u5 g2 g6 g7 g10 u0 u2 i) (qc_t_X9_columnType_in dC dI cB cI cJ cZ h0 hY hZ hR hM hMk hT s1 rt nn mk ty e0 e1 e4 e5 e8 e9 e11 u3 u4 u5 g2 g6 g7 g10 u0 u2 i (va_A (cs_t_X9_columnType_in cB cI cJ cZ h0 hY hZ hR hM hMk hT s1 rt nn mk ty e0 e1 e4 e5 e8 e9 e11 u3 u4 u5 g2 g6 g7 g10 u0 u2 i) sz)) 0 0 (va_A (cs_t_X9_columnType_in cB cI cJ cZ h0 hY hZ hR hM hMk hT s1 rt nn mk ty e0 e1 e4 e5 e8 e9 e11 u3 u4 u5 g2 g6 g7 g10 u0 u2 i) sz) := by
  refine Met.ofW (cc := cX9_columnType) (maxL := 2) (ret := (some .int)) (by decide) rfl ?_
  intro p e s m args below meth c s₁ B hml hv
  obtain ⟨rfl, hsz, hP, hK, hD0⟩ := hv
  have hx := B.exec
  have hb := B.bytes
  have hr := B.returns
  have hts := atoms_spec (ws := (wsOf yX9_columnType cX9_columnType 2 (some .int))) B.pre
  have hown : s.vm.findClass RX9 = some m.cls := findClass_of_methodNamed B.named
  have hlocks := B.notSynchronized
  subst hsz
  have hD := hD0.self (sz := s.heap.size)
  generalize hAe : va_A (cs_t_X9_columnType_in cB cI cJ cZ h0 hY hZ hR hM hMk hT s1 rt nn mk ty e0 e1 e4 e5 e8 e9 e11 u3 u4 u5 g2 g6 g7 g10 u0 u2 i) s.heap.size = A at hD ⊢
  have hA : ∀ q : Nat, s.heap.size ≤ q → A q := fun q h => by rw [← hAe]; exact Or.inr h
  have hS : va_S A s.heap s.heap [] := va_S.rf
  have hP : va_P (dC, dI) vwCl [(h0, .inr (10, [.int e0, .int e1, g2, .ref hY, .int e4, .int e5, g6, g7, .int e8, .int e9, g10, .int e11])), (hY, .inr (4, [u0, .ref hZ, u2, .int u3, .int u4, .int u5])), (hZ, .inr (3, [.int (nI s1), .ref hR, .ref hM, .ref hMk, .ref hT])), (hR, .inl (cI, 8, .inl rt)), (hM, .inl (cJ, 8, .inr (.inl nn))), (hMk, .inl (cI, 8, .inl mk)), (hT, .inl (cI, 8, .inl ty))] s.heap := hP
  have hl := lv_entry ([.ref h0, .int (nI i)]) (n := 2) (Nat.le_of_ble_eq_true rfl)
  rw [lg_entry_eq]
  generalize (lg_sl ([.ref h0, .int (nI i)]) ++ List.replicate (2 - (lg_sl ([.ref h0, .int (nI i)])).length) Slot.unset).toArray = ls at hl ⊢
  have hl : lv_has ls 2 [(0, .ref h0), (1, .int (nI i))] := hl
  refine lv_aload_n hx hb dX9_columnType_0 rfl (lv_at hl 0 rfl) ?_
  refine va_get (D := (dC, dI)) (ci := 10) (v := .ref hY) (C := RX9) (T := TX9) (N := 12) hx hb hts (fun w h => List.mem_cons_of_mem _ (uG_X9 w h)) hown hK hP 0 rfl rfl 3 (by decide) (hts _ (List.mem_cons_of_mem _ kw_862)) (fun _ h9 => h9) rfl dX9_columnType_1 ?_
  refine va_get (D := (dC, dI)) (ci := 4) (v := .ref hZ) (C := RX3) (T := TX3) (N := 6) hx hb hts (fun w h => List.mem_cons_of_mem _ (uG_X3 w h)) hown hK hP 1 rfl rfl 1 (by decide) (hts _ (List.mem_cons_of_mem _ kw_829)) (fun _ h9 => h9) rfl dX9_columnType_4 ?_
  refine lv_iload_n hx hb dX9_columnType_7 rfl (lv_at hl 1 rfl) ?_
  have hPc := hP.sub (ws' := [(hZ, .inr (3, [.int (nI s1), .ref hR, .ref hM, .ref hMk, .ref hT])), (hR, .inl (cI, 8, .inl rt)), (hM, .inl (cJ, 8, .inr (.inl nn))), (hMk, .inl (cI, 8, .inl mk)), (hT, .inl (cI, 8, .inl ty))]) [2, 3, 4, 5, 6] rfl
  have hDc := hD.sub (ws' := [(hZ, .inr (3, [.int (nI s1), .ref hR, .ref hM, .ref hMk, .ref hT])), (hR, .inl (cI, 8, .inl rt)), (hM, .inl (cJ, 8, .inr (.inl nn))), (hMk, .inl (cI, 8, .inl mk)), (hT, .inl (cI, 8, .inl ty))]) [2, 3, 4, 5, 6] (by decide) rfl
  have hKc := hK.sub (tys' := [(cB, .byte), (cI, .int), (cJ, .long), (cZ, .boolean)]) [0, 1, 2, 3] rfl
  have hFc := va_free (wc := [(hZ, .inr (3, [.int (nI s1), .ref hR, .ref hM, .ref hMk, .ref hT])), (hR, .inl (cI, 8, .inl rt)), (hM, .inl (cJ, 8, .inr (.inl nn))), (hMk, .inl (cI, 8, .inl mk)), (hT, .inl (cI, 8, .inl ty))]) hD hS hA [2, 3, 4, 5, 6] rfl
  refine va_calli (va_runV (As := [.int (nI i)]) (rest := []) ⟨hx, hb, hml, hown, hts⟩ (t_X2_has_in l dC dI s.heap.size cB cI cJ cZ hZ hR hM hMk hT s1 rt nn mk ty i hs hi) (cwV 1 hts (gd_all (in_V kw_1659 kw_1221 kw_1222 kw_196 kc_X2_has)) rfl rfl rfl (by decide +kernel) ⟨Nat.le_of_ble_eq_true rfl, Nat.le_of_ble_eq_true rfl⟩) ⟨fun a U g mk q => by obtain ⟨q0, q1, qP, qK, qD⟩ := q; exact ⟨q0, q1, qP, va_K.moved (u := U) (U := U.calling g mk a) (Vm.Alike.refl U.vm) qK, qD⟩, va_recv hKc hPc (ci := 3) (q0 := 0) rfl rfl, fun U hU hW => ⟨rfl, by rw [hU], by rw [hU]; exact hPc, va_K.moved hW.alike hKc, hDc.weaken (fun _ _ _ _ => trivial)⟩⟩ rfl rfl hl.1 rfl (lv_room (Nat.le_of_ble_eq_true rfl)) dX9_columnType_8 ⟨Nat.le_of_ble_eq_true rfl, Nat.le_of_ble_eq_true rfl⟩) hS (fun q _ h => hFc q h) hFc (fun r_1 u t_ H1 locs ht hvm hw hB hz1 hk1 hS => ?_)
  obtain ⟨hP1, hK1, hD1⟩ := hB
  rw [ht] at hP1
  have hK1 := va_K.moved hvm.symm hK1
  obtain ⟨hP, hD⟩ := va_join (wr := [(h0, .inr (10, [.int e0, .int e1, g2, .ref hY, .int e4, .int e5, g6, g7, .int e8, .int e9, g10, .int e11])), (hY, .inr (4, [u0, .ref hZ, u2, .int u3, .int u4, .int u5]))]) (w1 := [(hZ, .inr (3, [.int (nI s1), .ref hR, .ref hM, .ref hMk, .ref hT])), (hR, .inl (cI, 8, .inl rt)), (hM, .inl (cJ, 8, .inr (.inl nn))), (hMk, .inl (cI, 8, .inl mk)), (hT, .inl (cI, 8, .inl ty))]) hP hD [2, 3, 4, 5, 6] [0, 1] rfl rfl (by decide) (by decide) hk1 hFc hP1 hD1
  have hK := (hK.sub (tys' := []) [] rfl).app hK1
  generalize H1 = H at hP hS ⊢
  have hP : va_P (dC, dI) vwCl [(h0, .inr (10, [.int e0, .int e1, g2, .ref hY, .int e4, .int e5, g6, g7, .int e8, .int e9, g10, .int e11])), (hY, .inr (4, [u0, .ref hZ, u2, .int u3, .int u4, .int u5])), (hZ, .inr (3, [.int (nI s1), .ref hR, .ref hM, .ref hMk, .ref hT])), (hR, .inl (cI, 8, .inl rt)), (hM, .inl (cJ, 8, .inr (.inl nn))), (hMk, .inl (cI, 8, .inl mk)), (hT, .inl (cI, 8, .inl ty))] H := hP
  have hD : va_D A [(h0, .inr (10, [.int e0, .int e1, g2, .ref hY, .int e4, .int e5, g6, g7, .int e8, .int e9, g10, .int e11])), (hY, .inr (4, [u0, .ref hZ, u2, .int u3, .int u4, .int u5])), (hZ, .inr (3, [.int (nI s1), .ref hR, .ref hM, .ref hMk, .ref hT])), (hR, .inl (cI, 8, .inl rt)), (hM, .inl (cJ, 8, .inr (.inl nn))), (hMk, .inl (cI, 8, .inl mk)), (hT, .inl (cI, 8, .inl ty))] := hD
  have hK : va_K (dC, dI) vwCl [(cB, .byte), (cI, .int), (cJ, .long), (cZ, .boolean)] s := hK
  have er_1 : r_1 = 1 := hw
  rw [er_1]
  refine lv_if_eq (tgt := 29) hx hb dX9_columnType_11 (by decide) (fun c_2 => ?_) (fun c_2 => ?_)
  · skip
    exact absurd c_2 (by decide)
  · skip
    refine lv_aload_n hx hb dX9_columnType_14 rfl (lv_at hl 0 rfl) ?_
    refine va_get (D := (dC, dI)) (ci := 10) (v := .ref hY) (C := RX9) (T := TX9) (N := 12) hx hb hts (fun w h => List.mem_cons_of_mem _ (uG_X9 w h)) hown hK hP 0 rfl rfl 3 (by decide) (hts _ (List.mem_cons_of_mem _ kw_862)) (fun _ h9 => h9) rfl dX9_columnType_15 ?_
    refine va_get (D := (dC, dI)) (ci := 4) (v := .ref hZ) (C := RX3) (T := TX3) (N := 6) hx hb hts (fun w h => List.mem_cons_of_mem _ (uG_X3 w h)) hown hK hP 1 rfl rfl 1 (by decide) (hts _ (List.mem_cons_of_mem _ kw_829)) (fun _ h9 => h9) rfl dX9_columnType_18 ?_
    refine va_get (D := (dC, dI)) (ci := 3) (v := .ref hT) (C := RX2) (T := TX2) (N := 5) hx hb hts (fun w h => List.mem_cons_of_mem _ (uG_X2 w h)) hown hK hP 2 rfl rfl 4 (by decide) (hts _ (List.mem_cons_of_mem _ kw_641)) (fun _ h9 => h9) rfl dX9_columnType_21 ?_
    refine lv_iload_n hx hb dX9_columnType_24 rfl (lv_at hl 1 rfl) ?_
    refine va_iald hx hb hK hP 6 1 rfl rfl (i := (nI i)) (vp_in_nI (n := i) (N := 8) (by omega) (by omega)) dX9_columnType_25 ?_
    refine lv_topi (fun x_3 ex_3 => ?_)
    have ex_3 : x_3 = ty i := ex_3.trans (congrArg ty (nI_clamp (n := i) (by omega)))
    subst ex_3
    refine lv_goto (tgt := 30) hx hb dX9_columnType_26 (by decide) ?_
    have hP9 := hP.sub (ws' := [(h0, .inr (10, [.int e0, .int e1, g2, .ref hY, .int e4, .int e5, g6, g7, .int e8, .int e9, g10, .int e11])), (hY, .inr (4, [u0, .ref hZ, u2, .int u3, .int u4, .int u5])), (hZ, .inr (3, [.int (nI s1), .ref hR, .ref hM, .ref hMk, .ref hT])), (hR, .inl (cI, 8, .inl rt)), (hM, .inl (cJ, 8, .inr (.inl nn))), (hMk, .inl (cI, 8, .inl mk)), (hT, .inl (cI, 8, .inl ty))]) [0, 1, 2, 3, 4, 5, 6] rfl
    have hD9 := hD.sub (ws' := [(h0, .inr (10, [.int e0, .int e1, g2, .ref hY, .int e4, .int e5, g6, g7, .int e8, .int e9, g10, .int e11])), (hY, .inr (4, [u0, .ref hZ, u2, .int u3, .int u4, .int u5])), (hZ, .inr (3, [.int (nI s1), .ref hR, .ref hM, .ref hMk, .ref hT])), (hR, .inl (cI, 8, .inl rt)), (hM, .inl (cJ, 8, .inr (.inl nn))), (hMk, .inl (cI, 8, .inl mk)), (hT, .inl (cI, 8, .inl ty))]) [0, 1, 2, 3, 4, 5, 6] (by decide) rfl
    have hK9 := hK.sub (tys' := [(cB, .byte), (cI, .int), (cJ, .long), (cZ, .boolean)]) [0, 1, 2, 3] rfl
    exact W.iret (v := (ty i)) hx hb hr (fun t_ ht hW => ⟨⟨(ty i), (), rfl, rfl, by rw [ht]; exact hP9, va_K.moved hW.alike hK9, hD9⟩, hS.F ht⟩) hS.2.2 dX9_columnType_30
abbrev cs_t_X9_columnType_o (cB cI cJ cZ : ClassId) (h0 hY hZ hR hM hMk hT s1 : Nat) (rt : Nat → Int32) (nn : Nat → Int64) (mk ty : Nat → Int32) (e0 e1 e4 e5 e8 e9 e11 u3 u4 u5 : Int32) (g2 g6 g7 g10 u0 u2 : Value) (x : Int32) : va_W := [(h0, .inr (10, [.int e0, .int e1, g2, .ref hY, .int e4, .int e5, g6, g7, .int e8, .int e9, g10, .int e11])), (hY, .inr (4, [u0, .ref hZ, u2, .int u3, .int u4, .int u5])), (hZ, .inr (3, [.int (nI s1), .ref hR, .ref hM, .ref hMk, .ref hT])), (hR, .inl (cI, 8, .inl rt)), (hM, .inl (cJ, 8, .inr (.inl nn))), (hMk, .inl (cI, 8, .inl mk)), (hT, .inl (cI, 8, .inl ty))]
abbrev pc_t_X9_columnType_o (dC : Nat → ClassId) (dI : Nat → Nat → Nat) (sz : Nat) (cB cI cJ cZ : ClassId) (h0 hY hZ hR hM hMk hT s1 : Nat) (rt : Nat → Int32) (nn : Nat → Int64) (mk ty : Nat → Int32) (e0 e1 e4 e5 e8 e9 e11 u3 u4 u5 : Int32) (g2 g6 g7 g10 u0 u2 : Value) (x : Int32) : Array Value → State → Prop := va_Pc [.ref h0, .int x] (fun U => U.heap.size = sz ∧ va_P (dC, dI) vwCl [(h0, .inr (10, [.int e0, .int e1, g2, .ref hY, .int e4, .int e5, g6, g7, .int e8, .int e9, g10, .int e11])), (hY, .inr (4, [u0, .ref hZ, u2, .int u3, .int u4, .int u5])), (hZ, .inr (3, [.int (nI s1), .ref hR, .ref hM, .ref hMk, .ref hT])), (hR, .inl (cI, 8, .inl rt)), (hM, .inl (cJ, 8, .inr (.inl nn))), (hMk, .inl (cI, 8, .inl mk)), (hT, .inl (cI, 8, .inl ty))] U.heap ∧ va_K (dC, dI) vwCl [(cB, .byte), (cI, .int), (cJ, .long), (cZ, .boolean)] U ∧ va_D (fun _ => True) [(h0, .inr (10, [.int e0, .int e1, g2, .ref hY, .int e4, .int e5, g6, g7, .int e8, .int e9, g10, .int e11])), (hY, .inr (4, [u0, .ref hZ, u2, .int u3, .int u4, .int u5])), (hZ, .inr (3, [.int (nI s1), .ref hR, .ref hM, .ref hMk, .ref hT])), (hR, .inl (cI, 8, .inl rt)), (hM, .inl (cJ, 8, .inr (.inl nn))), (hMk, .inl (cI, 8, .inl mk)), (hT, .inl (cI, 8, .inl ty))])
abbrev qc_t_X9_columnType_o (dC : Nat → ClassId) (dI : Nat → Nat → Nat) (cB cI cJ cZ : ClassId) (h0 hY hZ hR hM hMk hT s1 : Nat) (rt : Nat → Int32) (nn : Nat → Int64) (mk ty : Nat → Int32) (e0 e1 e4 e5 e8 e9 e11 u3 u4 u5 : Int32) (g2 g6 g7 g10 u0 u2 : Value) (x : Int32) (A : Nat → Prop) : Array Value → State → Outcome → State → Prop := va_Qi (fun (r : Int32) (u : Unit) => match u with | _ => r = 0) (fun (u : Unit) t_ => match u with | _ => va_P (dC, dI) vwCl [(h0, .inr (10, [.int e0, .int e1, g2, .ref hY, .int e4, .int e5, g6, g7, .int e8, .int e9, g10, .int e11])), (hY, .inr (4, [u0, .ref hZ, u2, .int u3, .int u4, .int u5])), (hZ, .inr (3, [.int (nI s1), .ref hR, .ref hM, .ref hMk, .ref hT])), (hR, .inl (cI, 8, .inl rt)), (hM, .inl (cJ, 8, .inr (.inl nn))), (hMk, .inl (cI, 8, .inl mk)), (hT, .inl (cI, 8, .inl ty))] t_.heap ∧ va_K (dC, dI) vwCl [(cB, .byte), (cI, .int), (cJ, .long), (cZ, .boolean)] t_ ∧ va_D A [(h0, .inr (10, [.int e0, .int e1, g2, .ref hY, .int e4, .int e5, g6, g7, .int e8, .int e9, g10, .int e11])), (hY, .inr (4, [u0, .ref hZ, u2, .int u3, .int u4, .int u5])), (hZ, .inr (3, [.int (nI s1), .ref hR, .ref hM, .ref hMk, .ref hT])), (hR, .inl (cI, 8, .inl rt)), (hM, .inl (cJ, 8, .inr (.inl nn))), (hMk, .inl (cI, 8, .inl mk)), (hT, .inl (cI, 8, .inl ty))]) A
set_option maxHeartbeats 4000000 in
set_option maxRecDepth 100000 in
theorem t_X9_columnType_o (l : Launch) (dC : Nat → ClassId) (dI : Nat → Nat → Nat) (sz : Nat) (cB cI cJ cZ : ClassId) (h0 hY hZ hR hM hMk hT s1 : Nat) (rt : Nat → Int32) (nn : Nat → Int64) (mk ty : Nat → Int32) (e0 e1 e4 e5 e8 e9 e11 u3 u4 u5 : Int32) (g2 g6 g7 g10 u0 u2 : Value) (x : Int32) (hs : s1 ≤ 8) (ho : x < 0 ∨ nI s1 ≤ x) : Met l yX9_columnType (wsOf yX9_columnType cX9_columnType 2 (some .int)) ({ frames := 1, cells := 0, slots := 0, locals := 60 }) (pc_t_X9_columnType_o dC dI sz cB cI cJ cZ h0 hY hZ hR hM hMk hT s1 rt nn mk ty e0 e1 e4 e5 e8 e9 e11 u3 u4 u5 g2 g6 g7 g10 u0 u2 x) (qc_t_X9_columnType_o dC dI cB cI cJ cZ h0 hY hZ hR hM hMk hT s1 rt nn mk ty e0 e1 e4 e5 e8 e9 e11 u3 u4 u5 g2 g6 g7 g10 u0 u2 x (va_A (cs_t_X9_columnType_o cB cI cJ cZ h0 hY hZ hR hM hMk hT s1 rt nn mk ty e0 e1 e4 e5 e8 e9 e11 u3 u4 u5 g2 g6 g7 g10 u0 u2 x) sz)) 0 0 (va_A (cs_t_X9_columnType_o cB cI cJ cZ h0 hY hZ hR hM hMk hT s1 rt nn mk ty e0 e1 e4 e5 e8 e9 e11 u3 u4 u5 g2 g6 g7 g10 u0 u2 x) sz) := by
  refine Met.ofW (cc := cX9_columnType) (maxL := 2) (ret := (some .int)) (by decide) rfl ?_
  intro p e s m args below meth c s₁ B hml hv
  obtain ⟨rfl, hsz, hP, hK, hD0⟩ := hv
  have hx := B.exec
  have hb := B.bytes
  have hr := B.returns
  have hts := atoms_spec (ws := (wsOf yX9_columnType cX9_columnType 2 (some .int))) B.pre
  have hown : s.vm.findClass RX9 = some m.cls := findClass_of_methodNamed B.named
  have hlocks := B.notSynchronized
  subst hsz
  have hD := hD0.self (sz := s.heap.size)
  generalize hAe : va_A (cs_t_X9_columnType_o cB cI cJ cZ h0 hY hZ hR hM hMk hT s1 rt nn mk ty e0 e1 e4 e5 e8 e9 e11 u3 u4 u5 g2 g6 g7 g10 u0 u2 x) s.heap.size = A at hD ⊢
  have hA : ∀ q : Nat, s.heap.size ≤ q → A q := fun q h => by rw [← hAe]; exact Or.inr h
  have hS : va_S A s.heap s.heap [] := va_S.rf
  have hP : va_P (dC, dI) vwCl [(h0, .inr (10, [.int e0, .int e1, g2, .ref hY, .int e4, .int e5, g6, g7, .int e8, .int e9, g10, .int e11])), (hY, .inr (4, [u0, .ref hZ, u2, .int u3, .int u4, .int u5])), (hZ, .inr (3, [.int (nI s1), .ref hR, .ref hM, .ref hMk, .ref hT])), (hR, .inl (cI, 8, .inl rt)), (hM, .inl (cJ, 8, .inr (.inl nn))), (hMk, .inl (cI, 8, .inl mk)), (hT, .inl (cI, 8, .inl ty))] s.heap := hP
  have hl := lv_entry ([.ref h0, .int x]) (n := 2) (Nat.le_of_ble_eq_true rfl)
  rw [lg_entry_eq]
  generalize (lg_sl ([.ref h0, .int x]) ++ List.replicate (2 - (lg_sl ([.ref h0, .int x])).length) Slot.unset).toArray = ls at hl ⊢
  have hl : lv_has ls 2 [(0, .ref h0), (1, .int x)] := hl
  refine lv_aload_n hx hb dX9_columnType_0 rfl (lv_at hl 0 rfl) ?_
  refine va_get (D := (dC, dI)) (ci := 10) (v := .ref hY) (C := RX9) (T := TX9) (N := 12) hx hb hts (fun w h => List.mem_cons_of_mem _ (uG_X9 w h)) hown hK hP 0 rfl rfl 3 (by decide) (hts _ (List.mem_cons_of_mem _ kw_862)) (fun _ h9 => h9) rfl dX9_columnType_1 ?_
  refine va_get (D := (dC, dI)) (ci := 4) (v := .ref hZ) (C := RX3) (T := TX3) (N := 6) hx hb hts (fun w h => List.mem_cons_of_mem _ (uG_X3 w h)) hown hK hP 1 rfl rfl 1 (by decide) (hts _ (List.mem_cons_of_mem _ kw_829)) (fun _ h9 => h9) rfl dX9_columnType_4 ?_
  refine lv_iload_n hx hb dX9_columnType_7 rfl (lv_at hl 1 rfl) ?_
  have hPc := hP.sub (ws' := [(hZ, .inr (3, [.int (nI s1), .ref hR, .ref hM, .ref hMk, .ref hT])), (hR, .inl (cI, 8, .inl rt)), (hM, .inl (cJ, 8, .inr (.inl nn))), (hMk, .inl (cI, 8, .inl mk)), (hT, .inl (cI, 8, .inl ty))]) [2, 3, 4, 5, 6] rfl
  have hDc := hD.sub (ws' := [(hZ, .inr (3, [.int (nI s1), .ref hR, .ref hM, .ref hMk, .ref hT])), (hR, .inl (cI, 8, .inl rt)), (hM, .inl (cJ, 8, .inr (.inl nn))), (hMk, .inl (cI, 8, .inl mk)), (hT, .inl (cI, 8, .inl ty))]) [2, 3, 4, 5, 6] (by decide) rfl
  have hKc := hK.sub (tys' := [(cB, .byte), (cI, .int), (cJ, .long), (cZ, .boolean)]) [0, 1, 2, 3] rfl
  have hFc := va_free (wc := [(hZ, .inr (3, [.int (nI s1), .ref hR, .ref hM, .ref hMk, .ref hT])), (hR, .inl (cI, 8, .inl rt)), (hM, .inl (cJ, 8, .inr (.inl nn))), (hMk, .inl (cI, 8, .inl mk)), (hT, .inl (cI, 8, .inl ty))]) hD hS hA [2, 3, 4, 5, 6] rfl
  refine va_calli (va_runV (As := [.int x]) (rest := []) ⟨hx, hb, hml, hown, hts⟩ (t_X2_has_o l dC dI s.heap.size cB cI cJ cZ hZ hR hM hMk hT s1 rt nn mk ty x hs ho) (cwV 1 hts (gd_all (in_V kw_1659 kw_1221 kw_1222 kw_196 kc_X2_has)) rfl rfl rfl (by decide +kernel) ⟨Nat.le_of_ble_eq_true rfl, Nat.le_of_ble_eq_true rfl⟩) ⟨fun a U g mk q => by obtain ⟨q0, q1, qP, qK, qD⟩ := q; exact ⟨q0, q1, qP, va_K.moved (u := U) (U := U.calling g mk a) (Vm.Alike.refl U.vm) qK, qD⟩, va_recv hKc hPc (ci := 3) (q0 := 0) rfl rfl, fun U hU hW => ⟨rfl, by rw [hU], by rw [hU]; exact hPc, va_K.moved hW.alike hKc, hDc.weaken (fun _ _ _ _ => trivial)⟩⟩ rfl rfl hl.1 rfl (lv_room (Nat.le_of_ble_eq_true rfl)) dX9_columnType_8 ⟨Nat.le_of_ble_eq_true rfl, Nat.le_of_ble_eq_true rfl⟩) hS (fun q _ h => hFc q h) hFc (fun r_1 u t_ H1 locs ht hvm hw hB hz1 hk1 hS => ?_)
  obtain ⟨hP1, hK1, hD1⟩ := hB
  rw [ht] at hP1
  have hK1 := va_K.moved hvm.symm hK1
  obtain ⟨hP, hD⟩ := va_join (wr := [(h0, .inr (10, [.int e0, .int e1, g2, .ref hY, .int e4, .int e5, g6, g7, .int e8, .int e9, g10, .int e11])), (hY, .inr (4, [u0, .ref hZ, u2, .int u3, .int u4, .int u5]))]) (w1 := [(hZ, .inr (3, [.int (nI s1), .ref hR, .ref hM, .ref hMk, .ref hT])), (hR, .inl (cI, 8, .inl rt)), (hM, .inl (cJ, 8, .inr (.inl nn))), (hMk, .inl (cI, 8, .inl mk)), (hT, .inl (cI, 8, .inl ty))]) hP hD [2, 3, 4, 5, 6] [0, 1] rfl rfl (by decide) (by decide) hk1 hFc hP1 hD1
  have hK := (hK.sub (tys' := []) [] rfl).app hK1
  generalize H1 = H at hP hS ⊢
  have hP : va_P (dC, dI) vwCl [(h0, .inr (10, [.int e0, .int e1, g2, .ref hY, .int e4, .int e5, g6, g7, .int e8, .int e9, g10, .int e11])), (hY, .inr (4, [u0, .ref hZ, u2, .int u3, .int u4, .int u5])), (hZ, .inr (3, [.int (nI s1), .ref hR, .ref hM, .ref hMk, .ref hT])), (hR, .inl (cI, 8, .inl rt)), (hM, .inl (cJ, 8, .inr (.inl nn))), (hMk, .inl (cI, 8, .inl mk)), (hT, .inl (cI, 8, .inl ty))] H := hP
  have hD : va_D A [(h0, .inr (10, [.int e0, .int e1, g2, .ref hY, .int e4, .int e5, g6, g7, .int e8, .int e9, g10, .int e11])), (hY, .inr (4, [u0, .ref hZ, u2, .int u3, .int u4, .int u5])), (hZ, .inr (3, [.int (nI s1), .ref hR, .ref hM, .ref hMk, .ref hT])), (hR, .inl (cI, 8, .inl rt)), (hM, .inl (cJ, 8, .inr (.inl nn))), (hMk, .inl (cI, 8, .inl mk)), (hT, .inl (cI, 8, .inl ty))] := hD
  have hK : va_K (dC, dI) vwCl [(cB, .byte), (cI, .int), (cJ, .long), (cZ, .boolean)] s := hK
  have er_1 : r_1 = 0 := hw
  rw [er_1]
  refine lv_if_eq (tgt := 29) hx hb dX9_columnType_11 (by decide) (fun c_2 => ?_) (fun c_2 => ?_)
  · skip
    refine lv_iconst (v := 0) hx hb dX9_columnType_29 (by decide) ?_
    have hP9 := hP.sub (ws' := [(h0, .inr (10, [.int e0, .int e1, g2, .ref hY, .int e4, .int e5, g6, g7, .int e8, .int e9, g10, .int e11])), (hY, .inr (4, [u0, .ref hZ, u2, .int u3, .int u4, .int u5])), (hZ, .inr (3, [.int (nI s1), .ref hR, .ref hM, .ref hMk, .ref hT])), (hR, .inl (cI, 8, .inl rt)), (hM, .inl (cJ, 8, .inr (.inl nn))), (hMk, .inl (cI, 8, .inl mk)), (hT, .inl (cI, 8, .inl ty))]) [0, 1, 2, 3, 4, 5, 6] rfl
    have hD9 := hD.sub (ws' := [(h0, .inr (10, [.int e0, .int e1, g2, .ref hY, .int e4, .int e5, g6, g7, .int e8, .int e9, g10, .int e11])), (hY, .inr (4, [u0, .ref hZ, u2, .int u3, .int u4, .int u5])), (hZ, .inr (3, [.int (nI s1), .ref hR, .ref hM, .ref hMk, .ref hT])), (hR, .inl (cI, 8, .inl rt)), (hM, .inl (cJ, 8, .inr (.inl nn))), (hMk, .inl (cI, 8, .inl mk)), (hT, .inl (cI, 8, .inl ty))]) [0, 1, 2, 3, 4, 5, 6] (by decide) rfl
    have hK9 := hK.sub (tys' := [(cB, .byte), (cI, .int), (cJ, .long), (cZ, .boolean)]) [0, 1, 2, 3] rfl
    exact W.iret (v := 0) hx hb hr (fun t_ ht hW => ⟨⟨0, (), rfl, rfl, by rw [ht]; exact hP9, va_K.moved hW.alike hK9, hD9⟩, hS.F ht⟩) hS.2.2 dX9_columnType_30
  · skip
    exact absurd c_2 (by decide)
