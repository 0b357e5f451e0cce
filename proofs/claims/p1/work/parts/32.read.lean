theorem dX12_tell_0 : decode cX12_tell 0 = .ok (.aload_n 0, 1) := by decide +kernel
theorem dX12_tell_1 : decode cX12_tell 1 = .ok (.getfield 292, 3) := by decide +kernel
theorem dX12_tell_4 : decode cX12_tell 4 = .ok (.ifCond .eq 18, 3) := by decide +kernel
theorem dX12_tell_7 : decode cX12_tell 7 = .ok (.aload_n 0, 1) := by decide +kernel
theorem dX12_tell_8 : decode cX12_tell 8 = .ok (.iconst 0, 1) := by decide +kernel
theorem dX12_tell_9 : decode cX12_tell 9 = .ok (.putfield 292, 3) := by decide +kernel
theorem dX12_tell_12 : decode cX12_tell 12 = .ok (.aload_n 0, 1) := by decide +kernel
theorem dX12_tell_13 : decode cX12_tell 13 = .ok (.iload_n 1, 1) := by decide +kernel
theorem dX12_tell_14 : decode cX12_tell 14 = .ok (.putfield 296, 3) := by decide +kernel
theorem dX12_tell_17 : decode cX12_tell 17 = .ok (.aload_n 0, 1) := by decide +kernel
theorem dX12_tell_18 : decode cX12_tell 18 = .ok (.iload_n 2, 1) := by decide +kernel
theorem dX12_tell_19 : decode cX12_tell 19 = .ok (.putfield 299, 3) := by decide +kernel
theorem dX12_tell_22 : decode cX12_tell 22 = .ok (.return_, 1) := by decide +kernel
abbrev cs_t_X12_tell_1 (cB cI cJ cZ : ClassId) (h0 : Nat) (a : Nat → Nat) (f : Nat → Int32) (w : Int64) (n1 p1 : Int32) : va_W := [(h0, .inr (13, moF a f w))]
abbrev pc_t_X12_tell_1 (dC : Nat → ClassId) (dI : Nat → Nat → Nat) (sz : Nat) (cB cI cJ cZ : ClassId) (h0 : Nat) (a : Nat → Nat) (f : Nat → Int32) (w : Int64) (n1 p1 : Int32) : Array Value → State → Prop := va_Pc [.ref h0, .int n1, .int p1] (fun U => U.heap.size = sz ∧ va_P (dC, dI) vwCl [(h0, .inr (13, moF a f w))] U.heap ∧ va_K (dC, dI) vwCl [(cB, .byte), (cI, .int), (cJ, .long), (cZ, .boolean)] U ∧ va_D (fun _ => True) [(h0, .inr (13, moF a f w))])
abbrev qc_t_X12_tell_1 (dC : Nat → ClassId) (dI : Nat → Nat → Nat) (cB cI cJ cZ : ClassId) (h0 : Nat) (a : Nat → Nat) (f : Nat → Int32) (w : Int64) (n1 p1 : Int32) (A : Nat → Prop) : Array Value → State → Outcome → State → Prop := va_Qv (fun (u : Unit) => match u with | _ => True) (fun (u : Unit) t_ => match u with | _ => va_P (dC, dI) vwCl [(h0, .inr (13, moF a (upd (upd (upd f 21 0) 19 n1) 20 p1) w))] t_.heap ∧ va_K (dC, dI) vwCl [(cB, .byte), (cI, .int), (cJ, .long), (cZ, .boolean)] t_ ∧ va_D A [(h0, .inr (13, moF a (upd (upd (upd f 21 0) 19 n1) 20 p1) w))]) A
set_option maxHeartbeats 4000000 in
set_option maxRecDepth 100000 in
theorem t_X12_tell_1 (l : Launch) (dC : Nat → ClassId) (dI : Nat → Nat → Nat) (sz : Nat) (cB cI cJ cZ : ClassId) (h0 : Nat) (a : Nat → Nat) (f : Nat → Int32) (w : Int64) (n1 p1 : Int32) (hg : ¬ f 21 = 0) : Met l yX12_tell (wsOf yX12_tell cX12_tell 3 none) ({ frames := 0, cells := 0, slots := 0, locals := 0 }) (pc_t_X12_tell_1 dC dI sz cB cI cJ cZ h0 a f w n1 p1) (qc_t_X12_tell_1 dC dI cB cI cJ cZ h0 a f w n1 p1 (va_A (cs_t_X12_tell_1 cB cI cJ cZ h0 a f w n1 p1) sz)) 0 0 (va_A (cs_t_X12_tell_1 cB cI cJ cZ h0 a f w n1 p1) sz) := by
  refine Met.ofW (cc := cX12_tell) (maxL := 3) (ret := none) (by decide) rfl ?_
  intro p e s m args below meth c s₁ B hml hv
  obtain ⟨rfl, hsz, hP, hK, hD0⟩ := hv
  have hx := B.exec
  have hb := B.bytes
  have hr := B.returns
  have hts := atoms_spec (ws := (wsOf yX12_tell cX12_tell 3 none)) B.pre
  have hown : s.vm.findClass RX12 = some m.cls := findClass_of_methodNamed B.named
  have hlocks := B.notSynchronized
  subst hsz
  have hD := hD0.self (sz := s.heap.size)
  generalize hAe : va_A (cs_t_X12_tell_1 cB cI cJ cZ h0 a f w n1 p1) s.heap.size = A at hD ⊢
  have hA : ∀ q : Nat, s.heap.size ≤ q → A q := fun q h => by rw [← hAe]; exact Or.inr h
  have hS : va_S A s.heap s.heap [] := va_S.rf
  have hP : va_P (dC, dI) vwCl [(h0, .inr (13, moF a f w))] s.heap := hP
  have hl := lv_entry ([.ref h0, .int n1, .int p1]) (n := 3) (Nat.le_of_ble_eq_true rfl)
  rw [lg_entry_eq]
  generalize (lg_sl ([.ref h0, .int n1, .int p1]) ++ List.replicate (3 - (lg_sl ([.ref h0, .int n1, .int p1])).length) Slot.unset).toArray = ls at hl ⊢
  have hl : lv_has ls 3 [(0, .ref h0), (1, .int n1), (2, .int p1)] := hl
  refine lv_aload_n hx hb dX12_tell_0 rfl (lv_at hl 0 rfl) ?_
  refine va_get (D := (dC, dI)) (ci := 13) (v := .int (f 21)) (C := RX12) (T := TX12) (N := 115) hx hb hts (fun w h => List.mem_cons_of_mem _ (uG_X12 w h)) hown hK hP 0 rfl rfl 21 (by decide) (hts _ (List.mem_cons_of_mem _ kw_1712)) (fun _ h9 => h9) rfl dX12_tell_1 ?_
  refine lv_if_eq (tgt := 22) hx hb dX12_tell_4 (by decide) (fun c_1 => ?_) (fun c_1 => ?_)
  · skip
    exact absurd c_1 hg
  · skip
    refine lv_aload_n hx hb dX12_tell_7 rfl (lv_at hl 0 rfl) ?_
    refine lv_iconst (v := 0) hx hb dX12_tell_8 (by decide) ?_
    refine va_put (D := (dC, dI)) (ci := 13) (v := .int 0) (ty := .boolean) (C := RX12) (T := TX12) (N := 115) hx hb hts (fun w h => List.mem_cons_of_mem _ (uG_X12 w h)) tyX12 tyX12_ok nmX12 hown hK hP hD hS 0 rfl rfl 21 (by decide) (hts _ (List.mem_cons_of_mem _ kw_1712)) (fun _ h9 => h9) rfl (by decide +kernel) rfl rfl (Nat.le_of_ble_eq_true rfl) dX12_tell_9 (fun H locs hP hD hS => ?_)
    have hP : va_P (dC, dI) vwCl [(h0, .inr (13, moF a (upd f 21 0) w))] H := hP
    have hD : va_D A [(h0, .inr (13, moF a (upd f 21 0) w))] := hD
    refine lv_aload_n hx hb dX12_tell_12 rfl (lv_at hl 0 rfl) ?_
    refine lv_iload_n hx hb dX12_tell_13 rfl (lv_at hl 1 rfl) ?_
    refine va_put (D := (dC, dI)) (ci := 13) (v := .int n1) (ty := .int) (C := RX12) (T := TX12) (N := 115) hx hb hts (fun w h => List.mem_cons_of_mem _ (uG_X12 w h)) tyX12 tyX12_ok nmX12 hown hK hP hD hS 0 rfl rfl 19 (by decide) (hts _ (List.mem_cons_of_mem _ kw_1710)) (fun _ h9 => h9) rfl (by decide +kernel) rfl rfl (Nat.le_of_ble_eq_true rfl) dX12_tell_14 (fun H locs hP hD hS => ?_)
    have hP : va_P (dC, dI) vwCl [(h0, .inr (13, moF a (upd (upd f 21 0) 19 n1) w))] H := hP
    have hD : va_D A [(h0, .inr (13, moF a (upd (upd f 21 0) 19 n1) w))] := hD
    refine lv_aload_n hx hb dX12_tell_17 rfl (lv_at hl 0 rfl) ?_
    refine lv_iload_n hx hb dX12_tell_18 rfl (lv_at hl 2 rfl) ?_
    refine va_put (D := (dC, dI)) (ci := 13) (v := .int p1) (ty := .int) (C := RX12) (T := TX12) (N := 115) hx hb hts (fun w h => List.mem_cons_of_mem _ (uG_X12 w h)) tyX12 tyX12_ok nmX12 hown hK hP hD hS 0 rfl rfl 20 (by decide) (hts _ (List.mem_cons_of_mem _ kw_1711)) (fun _ h9 => h9) rfl (by decide +kernel) rfl rfl (Nat.le_of_ble_eq_true rfl) dX12_tell_19 (fun H locs hP hD hS => ?_)
    have hP : va_P (dC, dI) vwCl [(h0, .inr (13, moF a (upd (upd (upd f 21 0) 19 n1) 20 p1) w))] H := hP
    have hD : va_D A [(h0, .inr (13, moF a (upd (upd (upd f 21 0) 19 n1) 20 p1) w))] := hD
    have hP9 := hP.sub (ws' := [(h0, .inr (13, moF a (upd (upd (upd f 21 0) 19 n1) 20 p1) w))]) [0] rfl
    have hD9 := hD.sub (ws' := [(h0, .inr (13, moF a (upd (upd (upd f 21 0) 19 n1) 20 p1) w))]) [0] (by decide) rfl
    have hK9 := hK.sub (tys' := [(cB, .byte), (cI, .int), (cJ, .long), (cZ, .boolean)]) [0, 1, 2, 3] rfl
    exact W.vret hx hb hr (fun t_ ht hW => ⟨⟨(), rfl, trivial, by rw [ht]; exact hP9, va_K.moved hW.alike hK9, hD9⟩, hS.F ht⟩) hS.2.2 dX12_tell_22
abbrev cs_t_X12_tell_0 (cB cI cJ cZ : ClassId) (h0 : Nat) (a : Nat → Nat) (f : Nat → Int32) (w : Int64) (n1 p1 : Int32) : va_W := [(h0, .inr (13, moF a f w))]
abbrev pc_t_X12_tell_0 (dC : Nat → ClassId) (dI : Nat → Nat → Nat) (sz : Nat) (cB cI cJ cZ : ClassId) (h0 : Nat) (a : Nat → Nat) (f : Nat → Int32) (w : Int64) (n1 p1 : Int32) : Array Value → State → Prop := va_Pc [.ref h0, .int n1, .int p1] (fun U => U.heap.size = sz ∧ va_P (dC, dI) vwCl [(h0, .inr (13, moF a f w))] U.heap ∧ va_K (dC, dI) vwCl [(cB, .byte), (cI, .int), (cJ, .long), (cZ, .boolean)] U ∧ va_D (fun _ => True) [(h0, .inr (13, moF a f w))])
abbrev qc_t_X12_tell_0 (dC : Nat → ClassId) (dI : Nat → Nat → Nat) (cB cI cJ cZ : ClassId) (h0 : Nat) (a : Nat → Nat) (f : Nat → Int32) (w : Int64) (n1 p1 : Int32) (A : Nat → Prop) : Array Value → State → Outcome → State → Prop := va_Qv (fun (u : Unit) => match u with | _ => True) (fun (u : Unit) t_ => match u with | _ => va_P (dC, dI) vwCl [(h0, .inr (13, moF a f w))] t_.heap ∧ va_K (dC, dI) vwCl [(cB, .byte), (cI, .int), (cJ, .long), (cZ, .boolean)] t_ ∧ va_D A [(h0, .inr (13, moF a f w))]) A
set_option maxHeartbeats 4000000 in
set_option maxRecDepth 100000 in
theorem t_X12_tell_0 (l : Launch) (dC : Nat → ClassId) (dI : Nat → Nat → Nat) (sz : Nat) (cB cI cJ cZ : ClassId) (h0 : Nat) (a : Nat → Nat) (f : Nat → Int32) (w : Int64) (n1 p1 : Int32) (hg : f 21 = 0) : Met l yX12_tell (wsOf yX12_tell cX12_tell 3 none) ({ frames := 0, cells := 0, slots := 0, locals := 0 }) (pc_t_X12_tell_0 dC dI sz cB cI cJ cZ h0 a f w n1 p1) (qc_t_X12_tell_0 dC dI cB cI cJ cZ h0 a f w n1 p1 (va_A (cs_t_X12_tell_0 cB cI cJ cZ h0 a f w n1 p1) sz)) 0 0 (va_A (cs_t_X12_tell_0 cB cI cJ cZ h0 a f w n1 p1) sz) := by
  refine Met.ofW (cc := cX12_tell) (maxL := 3) (ret := none) (by decide) rfl ?_
  intro p e s m args below meth c s₁ B hml hv
  obtain ⟨rfl, hsz, hP, hK, hD0⟩ := hv
  have hx := B.exec
  have hb := B.bytes
  have hr := B.returns
  have hts := atoms_spec (ws := (wsOf yX12_tell cX12_tell 3 none)) B.pre
  have hown : s.vm.findClass RX12 = some m.cls := findClass_of_methodNamed B.named
  have hlocks := B.notSynchronized
  subst hsz
  have hD := hD0.self (sz := s.heap.size)
  generalize hAe : va_A (cs_t_X12_tell_0 cB cI cJ cZ h0 a f w n1 p1) s.heap.size = A at hD ⊢
  have hA : ∀ q : Nat, s.heap.size ≤ q → A q := fun q h => by rw [← hAe]; exact Or.inr h
  have hS : va_S A s.heap s.heap [] := va_S.rf
  have hP : va_P (dC, dI) vwCl [(h0, .inr (13, moF a f w))] s.heap := hP
  have hl := lv_entry ([.ref h0, .int n1, .int p1]) (n := 3) (Nat.le_of_ble_eq_true rfl)
  rw [lg_entry_eq]
  generalize (lg_sl ([.ref h0, .int n1, .int p1]) ++ List.replicate (3 - (lg_sl ([.ref h0, .int n1, .int p1])).length) Slot.unset).toArray = ls at hl ⊢
  have hl : lv_has ls 3 [(0, .ref h0), (1, .int n1), (2, .int p1)] := hl
  refine lv_aload_n hx hb dX12_tell_0 rfl (lv_at hl 0 rfl) ?_
  refine va_get (D := (dC, dI)) (ci := 13) (v := .int (f 21)) (C := RX12) (T := TX12) (N := 115) hx hb hts (fun w h => List.mem_cons_of_mem _ (uG_X12 w h)) hown hK hP 0 rfl rfl 21 (by decide) (hts _ (List.mem_cons_of_mem _ kw_1712)) (fun _ h9 => h9) rfl dX12_tell_1 ?_
  refine lv_if_eq (tgt := 22) hx hb dX12_tell_4 (by decide) (fun c_1 => ?_) (fun c_1 => ?_)
  · skip
    have hP9 := hP.sub (ws' := [(h0, .inr (13, moF a f w))]) [0] rfl
    have hD9 := hD.sub (ws' := [(h0, .inr (13, moF a f w))]) [0] (by decide) rfl
    have hK9 := hK.sub (tys' := [(cB, .byte), (cI, .int), (cJ, .long), (cZ, .boolean)]) [0, 1, 2, 3] rfl
    exact W.vret hx hb hr (fun t_ ht hW => ⟨⟨(), rfl, trivial, by rw [ht]; exact hP9, va_K.moved hW.alike hK9, hD9⟩, hS.F ht⟩) hS.2.2 dX12_tell_22
  · skip
    exact absurd hg c_1
theorem dX12_wrong_0 : decode cX12_wrong 0 = .ok (.aload_n 0, 1) := by decide +kernel
theorem dX12_wrong_1 : decode cX12_wrong 1 = .ok (.iconst 1, 1) := by decide +kernel
theorem dX12_wrong_2 : decode cX12_wrong 2 = .ok (.aload_n 0, 1) := by decide +kernel
theorem dX12_wrong_3 : decode cX12_wrong 3 = .ok (.getfield 43, 3) := by decide +kernel
theorem dX12_wrong_6 : decode cX12_wrong 6 = .ok (.aload_n 0, 1) := by decide +kernel
theorem dX12_wrong_7 : decode cX12_wrong 7 = .ok (.getfield 302, 3) := by decide +kernel
theorem dX12_wrong_10 : decode cX12_wrong 10 = .ok (.iaload, 1) := by decide +kernel
theorem dX12_wrong_11 : decode cX12_wrong 11 = .ok (.invokevirtual 305, 3) := by decide +kernel
theorem dX12_wrong_14 : decode cX12_wrong 14 = .ok (.return_, 1) := by decide +kernel
abbrev cs_t_X12_wrong_1 (cB cI cJ cZ : ClassId) (h0 : Nat) (a : Nat → Nat) (f : Nat → Int32) (w : Int64) (x1 : Nat) (sf pf : Nat → Int32) : va_W := [(h0, .inr (13, moF a (upd f 18 (nI x1)) w)), (a 14, .inl (cI, 2001, .inl sf)), (a 15, .inl (cI, 2001, .inl pf))]
abbrev pc_t_X12_wrong_1 (dC : Nat → ClassId) (dI : Nat → Nat → Nat) (sz : Nat) (cB cI cJ cZ : ClassId) (h0 : Nat) (a : Nat → Nat) (f : Nat → Int32) (w : Int64) (x1 : Nat) (sf pf : Nat → Int32) : Array Value → State → Prop := va_Pc [.ref h0] (fun U => U.heap.size = sz ∧ va_P (dC, dI) vwCl [(h0, .inr (13, moF a (upd f 18 (nI x1)) w)), (a 14, .inl (cI, 2001, .inl sf)), (a 15, .inl (cI, 2001, .inl pf))] U.heap ∧ va_K (dC, dI) vwCl [(cB, .byte), (cI, .int), (cJ, .long), (cZ, .boolean)] U ∧ va_D (fun _ => True) [(h0, .inr (13, moF a (upd f 18 (nI x1)) w)), (a 14, .inl (cI, 2001, .inl sf)), (a 15, .inl (cI, 2001, .inl pf))])
abbrev qc_t_X12_wrong_1 (dC : Nat → ClassId) (dI : Nat → Nat → Nat) (cB cI cJ cZ : ClassId) (h0 : Nat) (a : Nat → Nat) (f : Nat → Int32) (w : Int64) (x1 : Nat) (sf pf : Nat → Int32) (A : Nat → Prop) : Array Value → State → Outcome → State → Prop := va_Qv (fun (u : Unit) => match u with | _ => True) (fun (u : Unit) t_ => match u with | _ => va_P (dC, dI) vwCl [(h0, .inr (13, moF a (upd (upd (upd (upd f 18 (nI x1)) 21 0) 19 1) 20 (pf x1)) w)), (a 14, .inl (cI, 2001, .inl sf)), (a 15, .inl (cI, 2001, .inl pf))] t_.heap ∧ va_K (dC, dI) vwCl [(cB, .byte), (cI, .int), (cJ, .long), (cZ, .boolean)] t_ ∧ va_D A [(h0, .inr (13, moF a (upd (upd (upd (upd f 18 (nI x1)) 21 0) 19 1) 20 (pf x1)) w)), (a 14, .inl (cI, 2001, .inl sf)), (a 15, .inl (cI, 2001, .inl pf))]) A
set_option maxHeartbeats 4000000 in
set_option maxRecDepth 100000 in
theorem t_X12_wrong_1 (l : Launch) (dC : Nat → ClassId) (dI : Nat → Nat → Nat) (sz : Nat) (cB cI cJ cZ : ClassId) (h0 : Nat) (a : Nat → Nat) (f : Nat → Int32) (w : Int64) (x1 : Nat) (sf pf : Nat → Int32) (hx1 : x1 ≤ 2000) (hg : ¬ f 21 = 0) : Met l yX12_wrong (wsOf yX12_wrong cX12_wrong 1 none) ({ frames := 1, cells := 0, slots := 0, locals := 60 }) (pc_t_X12_wrong_1 dC dI sz cB cI cJ cZ h0 a f w x1 sf pf) (qc_t_X12_wrong_1 dC dI cB cI cJ cZ h0 a f w x1 sf pf (va_A (cs_t_X12_wrong_1 cB cI cJ cZ h0 a f w x1 sf pf) sz)) 0 0 (va_A (cs_t_X12_wrong_1 cB cI cJ cZ h0 a f w x1 sf pf) sz) := by
  refine Met.ofW (cc := cX12_wrong) (maxL := 1) (ret := none) (by decide) rfl ?_
  intro p e s m args below meth c s₁ B hml hv
  obtain ⟨rfl, hsz, hP, hK, hD0⟩ := hv
  have hx := B.exec
  have hb := B.bytes
  have hr := B.returns
  have hts := atoms_spec (ws := (wsOf yX12_wrong cX12_wrong 1 none)) B.pre
  have hown : s.vm.findClass RX12 = some m.cls := findClass_of_methodNamed B.named
  have hlocks := B.notSynchronized
  subst hsz
  have hD := hD0.self (sz := s.heap.size)
  generalize hAe : va_A (cs_t_X12_wrong_1 cB cI cJ cZ h0 a f w x1 sf pf) s.heap.size = A at hD ⊢
  have hA : ∀ q : Nat, s.heap.size ≤ q → A q := fun q h => by rw [← hAe]; exact Or.inr h
  have hS : va_S A s.heap s.heap [] := va_S.rf
  have hP : va_P (dC, dI) vwCl [(h0, .inr (13, moF a (upd f 18 (nI x1)) w)), (a 14, .inl (cI, 2001, .inl sf)), (a 15, .inl (cI, 2001, .inl pf))] s.heap := hP
  have hl := lv_entry ([.ref h0]) (n := 1) (Nat.le_of_ble_eq_true rfl)
  rw [lg_entry_eq]
  generalize (lg_sl ([.ref h0]) ++ List.replicate (1 - (lg_sl ([.ref h0])).length) Slot.unset).toArray = ls at hl ⊢
  have hl : lv_has ls 1 [(0, .ref h0)] := hl
  refine lv_aload_n hx hb dX12_wrong_0 rfl (lv_at hl 0 rfl) ?_
  refine lv_iconst (v := 1) hx hb dX12_wrong_1 (by decide) ?_
  refine lv_aload_n hx hb dX12_wrong_2 rfl (lv_at hl 0 rfl) ?_
  refine va_get (D := (dC, dI)) (ci := 13) (v := .ref (a 15)) (C := RX12) (T := TX12) (N := 115) hx hb hts (fun w h => List.mem_cons_of_mem _ (uG_X12 w h)) hown hK hP 0 rfl rfl 15 (by decide) (hts _ (List.mem_cons_of_mem _ kw_1706)) (fun _ h9 => h9) rfl dX12_wrong_3 ?_
  refine lv_aload_n hx hb dX12_wrong_6 rfl (lv_at hl 0 rfl) ?_
  refine va_get (D := (dC, dI)) (ci := 13) (v := .int (nI x1)) (C := RX12) (T := TX12) (N := 115) hx hb hts (fun w h => List.mem_cons_of_mem _ (uG_X12 w h)) hown hK hP 0 rfl rfl 18 (by decide) (hts _ (List.mem_cons_of_mem _ kw_1709)) (fun _ h9 => h9) rfl dX12_wrong_7 ?_
  refine va_iald hx hb hK hP 2 1 rfl rfl (i := (nI x1)) (vp_in_nI (n := x1) (N := 2001) (by omega) (by omega)) dX12_wrong_10 ?_
  refine lv_topi (fun x_1 ex_1 => ?_)
  have ex_1 : x_1 = pf x1 := ex_1.trans (congrArg pf (nI_clamp (n := x1) (by omega)))
  subst ex_1
  have hPc := hP.sub (ws' := [(h0, .inr (13, moF a (upd f 18 (nI x1)) w))]) [0] rfl
  have hDc := hD.sub (ws' := [(h0, .inr (13, moF a (upd f 18 (nI x1)) w))]) [0] (by decide) rfl
  have hKc := hK.sub (tys' := [(cB, .byte), (cI, .int), (cJ, .long), (cZ, .boolean)]) [0, 1, 2, 3] rfl
  have hFc := va_free (wc := [(h0, .inr (13, moF a (upd f 18 (nI x1)) w))]) hD hS hA [0] rfl
  refine va_callv (va_runV (As := [.int 1, .int (pf x1)]) (rest := []) ⟨hx, hb, hml, hown, hts⟩ (t_X12_tell_1 l dC dI s.heap.size cB cI cJ cZ h0 a (upd f 18 (nI x1)) w 1 (pf x1) hg) (cwV 2 hts (gd_all (in_V kw_2269 kw_2271 kw_141 kw_191 kc_X12_tell)) rfl rfl rfl (by decide +kernel) ⟨Nat.le_of_ble_eq_true rfl, Nat.le_of_ble_eq_true rfl⟩) ⟨fun a U g mk q => by obtain ⟨q0, q1, qP, qK, qD⟩ := q; exact ⟨q0, q1, qP, va_K.moved (u := U) (U := U.calling g mk a) (Vm.Alike.refl U.vm) qK, qD⟩, va_recv hKc hPc (ci := 13) (q0 := 0) rfl rfl, fun U hU hW => ⟨rfl, by rw [hU], by rw [hU]; exact hPc, va_K.moved hW.alike hKc, hDc.weaken (fun _ _ _ _ => trivial)⟩⟩ rfl rfl hl.1 rfl (lv_room (Nat.le_of_ble_eq_true rfl)) dX12_wrong_11 ⟨Nat.le_of_ble_eq_true rfl, Nat.le_of_ble_eq_true rfl⟩) hS (fun q _ h => hFc q h) hFc (fun u t_ H1 locs ht hvm hw hB hz1 hk1 hS => ?_)
  obtain ⟨hP1, hK1, hD1⟩ := hB
  rw [ht] at hP1
  have hK1 := va_K.moved hvm.symm hK1
  obtain ⟨hP, hD⟩ := va_join (wr := [(a 14, .inl (cI, 2001, .inl sf)), (a 15, .inl (cI, 2001, .inl pf))]) (w1 := [(h0, .inr (13, moF a (upd (upd (upd (upd f 18 (nI x1)) 21 0) 19 1) 20 (pf x1)) w))]) hP hD [0] [1, 2] rfl rfl (by decide) (by decide) hk1 hFc hP1 hD1
  have hK := (hK.sub (tys' := []) [] rfl).app hK1
  generalize H1 = H at hP hS ⊢
  have hP : va_P (dC, dI) vwCl [(a 14, .inl (cI, 2001, .inl sf)), (a 15, .inl (cI, 2001, .inl pf)), (h0, .inr (13, moF a (upd (upd (upd (upd f 18 (nI x1)) 21 0) 19 1) 20 (pf x1)) w))] H := hP
  have hD : va_D A [(a 14, .inl (cI, 2001, .inl sf)), (a 15, .inl (cI, 2001, .inl pf)), (h0, .inr (13, moF a (upd (upd (upd (upd f 18 (nI x1)) 21 0) 19 1) 20 (pf x1)) w))] := hD
  have hK : va_K (dC, dI) vwCl [(cB, .byte), (cI, .int), (cJ, .long), (cZ, .boolean)] s := hK
  have hP9 := hP.sub (ws' := [(h0, .inr (13, moF a (upd (upd (upd (upd f 18 (nI x1)) 21 0) 19 1) 20 (pf x1)) w)), (a 14, .inl (cI, 2001, .inl sf)), (a 15, .inl (cI, 2001, .inl pf))]) [2, 0, 1] rfl
  have hD9 := hD.sub (ws' := [(h0, .inr (13, moF a (upd (upd (upd (upd f 18 (nI x1)) 21 0) 19 1) 20 (pf x1)) w)), (a 14, .inl (cI, 2001, .inl sf)), (a 15, .inl (cI, 2001, .inl pf))]) [2, 0, 1] (by decide) rfl
  have hK9 := hK.sub (tys' := [(cB, .byte), (cI, .int), (cJ, .long), (cZ, .boolean)]) [0, 1, 2, 3] rfl
  exact W.vret hx hb hr (fun t_ ht hW => ⟨⟨(), rfl, trivial, by rw [ht]; exact hP9, va_K.moved hW.alike hK9, hD9⟩, hS.F ht⟩) hS.2.2 dX12_wrong_14
abbrev cs_t_X12_wrong_0 (cB cI cJ cZ : ClassId) (h0 : Nat) (a : Nat → Nat) (f : Nat → Int32) (w : Int64) (x1 : Nat) (sf pf : Nat → Int32) : va_W := [(h0, .inr (13, moF a (upd f 18 (nI x1)) w)), (a 14, .inl (cI, 2001, .inl sf)), (a 15, .inl (cI, 2001, .inl pf))]
abbrev pc_t_X12_wrong_0 (dC : Nat → ClassId) (dI : Nat → Nat → Nat) (sz : Nat) (cB cI cJ cZ : ClassId) (h0 : Nat) (a : Nat → Nat) (f : Nat → Int32) (w : Int64) (x1 : Nat) (sf pf : Nat → Int32) : Array Value → State → Prop := va_Pc [.ref h0] (fun U => U.heap.size = sz ∧ va_P (dC, dI) vwCl [(h0, .inr (13, moF a (upd f 18 (nI x1)) w)), (a 14, .inl (cI, 2001, .inl sf)), (a 15, .inl (cI, 2001, .inl pf))] U.heap ∧ va_K (dC, dI) vwCl [(cB, .byte), (cI, .int), (cJ, .long), (cZ, .boolean)] U ∧ va_D (fun _ => True) [(h0, .inr (13, moF a (upd f 18 (nI x1)) w)), (a 14, .inl (cI, 2001, .inl sf)), (a 15, .inl (cI, 2001, .inl pf))])
abbrev qc_t_X12_wrong_0 (dC : Nat → ClassId) (dI : Nat → Nat → Nat) (cB cI cJ cZ : ClassId) (h0 : Nat) (a : Nat → Nat) (f : Nat → Int32) (w : Int64) (x1 : Nat) (sf pf : Nat → Int32) (A : Nat → Prop) : Array Value → State → Outcome → State → Prop := va_Qv (fun (u : Unit) => match u with | _ => True) (fun (u : Unit) t_ => match u with | _ => va_P (dC, dI) vwCl [(h0, .inr (13, moF a (upd f 18 (nI x1)) w)), (a 14, .inl (cI, 2001, .inl sf)), (a 15, .inl (cI, 2001, .inl pf))] t_.heap ∧ va_K (dC, dI) vwCl [(cB, .byte), (cI, .int), (cJ, .long), (cZ, .boolean)] t_ ∧ va_D A [(h0, .inr (13, moF a (upd f 18 (nI x1)) w)), (a 14, .inl (cI, 2001, .inl sf)), (a 15, .inl (cI, 2001, .inl pf))]) A
set_option maxHeartbeats 4000000 in
set_option maxRecDepth 100000 in
theorem t_X12_wrong_0 (l : Launch) (dC : Nat → ClassId) (dI : Nat → Nat → Nat) (sz : Nat) (cB cI cJ cZ : ClassId) (h0 : Nat) (a : Nat → Nat) (f : Nat → Int32) (w : Int64) (x1 : Nat) (sf pf : Nat → Int32) (hx1 : x1 ≤ 2000) (hg : f 21 = 0) : Met l yX12_wrong (wsOf yX12_wrong cX12_wrong 1 none) ({ frames := 1, cells := 0, slots := 0, locals := 60 }) (pc_t_X12_wrong_0 dC dI sz cB cI cJ cZ h0 a f w x1 sf pf) (qc_t_X12_wrong_0 dC dI cB cI cJ cZ h0 a f w x1 sf pf (va_A (cs_t_X12_wrong_0 cB cI cJ cZ h0 a f w x1 sf pf) sz)) 0 0 (va_A (cs_t_X12_wrong_0 cB cI cJ cZ h0 a f w x1 sf pf) sz) := by
  refine Met.ofW (cc := cX12_wrong) (maxL := 1) (ret := none) (by decide) rfl ?_
  intro p e s m args below meth c s₁ B hml hv
  obtain ⟨rfl, hsz, hP, hK, hD0⟩ := hv
  have hx := B.exec
  have hb := B.bytes
  have hr := B.returns
  have hts := atoms_spec (ws := (wsOf yX12_wrong cX12_wrong 1 none)) B.pre
  have hown : s.vm.findClass RX12 = some m.cls := findClass_of_methodNamed B.named
  have hlocks := B.notSynchronized
  subst hsz
  have hD := hD0.self (sz := s.heap.size)
  generalize hAe : va_A (cs_t_X12_wrong_0 cB cI cJ cZ h0 a f w x1 sf pf) s.heap.size = A at hD ⊢
  have hA : ∀ q : Nat, s.heap.size ≤ q → A q := fun q h => by rw [← hAe]; exact Or.inr h
  have hS : va_S A s.heap s.heap [] := va_S.rf
  have hP : va_P (dC, dI) vwCl [(h0, .inr (13, moF a (upd f 18 (nI x1)) w)), (a 14, .inl (cI, 2001, .inl sf)), (a 15, .inl (cI, 2001, .inl pf))] s.heap := hP
  have hl := lv_entry ([.ref h0]) (n := 1) (Nat.le_of_ble_eq_true rfl)
  rw [lg_entry_eq]
  generalize (lg_sl ([.ref h0]) ++ List.replicate (1 - (lg_sl ([.ref h0])).length) Slot.unset).toArray = ls at hl ⊢
  have hl : lv_has ls 1 [(0, .ref h0)] := hl
  refine lv_aload_n hx hb dX12_wrong_0 rfl (lv_at hl 0 rfl) ?_
  refine lv_iconst (v := 1) hx hb dX12_wrong_1 (by decide) ?_
  refine lv_aload_n hx hb dX12_wrong_2 rfl (lv_at hl 0 rfl) ?_
  refine va_get (D := (dC, dI)) (ci := 13) (v := .ref (a 15)) (C := RX12) (T := TX12) (N := 115) hx hb hts (fun w h => List.mem_cons_of_mem _ (uG_X12 w h)) hown hK hP 0 rfl rfl 15 (by decide) (hts _ (List.mem_cons_of_mem _ kw_1706)) (fun _ h9 => h9) rfl dX12_wrong_3 ?_
  refine lv_aload_n hx hb dX12_wrong_6 rfl (lv_at hl 0 rfl) ?_
  refine va_get (D := (dC, dI)) (ci := 13) (v := .int (nI x1)) (C := RX12) (T := TX12) (N := 115) hx hb hts (fun w h => List.mem_cons_of_mem _ (uG_X12 w h)) hown hK hP 0 rfl rfl 18 (by decide) (hts _ (List.mem_cons_of_mem _ kw_1709)) (fun _ h9 => h9) rfl dX12_wrong_7 ?_
  refine va_iald hx hb hK hP 2 1 rfl rfl (i := (nI x1)) (vp_in_nI (n := x1) (N := 2001) (by omega) (by omega)) dX12_wrong_10 ?_
  refine lv_topi (fun x_1 ex_1 => ?_)
  have ex_1 : x_1 = pf x1 := ex_1.trans (congrArg pf (nI_clamp (n := x1) (by omega)))
  subst ex_1
  have hPc := hP.sub (ws' := [(h0, .inr (13, moF a (upd f 18 (nI x1)) w))]) [0] rfl
  have hDc := hD.sub (ws' := [(h0, .inr (13, moF a (upd f 18 (nI x1)) w))]) [0] (by decide) rfl
  have hKc := hK.sub (tys' := [(cB, .byte), (cI, .int), (cJ, .long), (cZ, .boolean)]) [0, 1, 2, 3] rfl
  have hFc := va_free (wc := [(h0, .inr (13, moF a (upd f 18 (nI x1)) w))]) hD hS hA [0] rfl
  refine va_callv (va_runV (As := [.int 1, .int (pf x1)]) (rest := []) ⟨hx, hb, hml, hown, hts⟩ (t_X12_tell_0 l dC dI s.heap.size cB cI cJ cZ h0 a (upd f 18 (nI x1)) w 1 (pf x1) hg) (cwV 2 hts (gd_all (in_V kw_2269 kw_2271 kw_141 kw_191 kc_X12_tell)) rfl rfl rfl (by decide +kernel) ⟨Nat.le_of_ble_eq_true rfl, Nat.le_of_ble_eq_true rfl⟩) ⟨fun a U g mk q => by obtain ⟨q0, q1, qP, qK, qD⟩ := q; exact ⟨q0, q1, qP, va_K.moved (u := U) (U := U.calling g mk a) (Vm.Alike.refl U.vm) qK, qD⟩, va_recv hKc hPc (ci := 13) (q0 := 0) rfl rfl, fun U hU hW => ⟨rfl, by rw [hU], by rw [hU]; exact hPc, va_K.moved hW.alike hKc, hDc.weaken (fun _ _ _ _ => trivial)⟩⟩ rfl rfl hl.1 rfl (lv_room (Nat.le_of_ble_eq_true rfl)) dX12_wrong_11 ⟨Nat.le_of_ble_eq_true rfl, Nat.le_of_ble_eq_true rfl⟩) hS (fun q _ h => hFc q h) hFc (fun u t_ H1 locs ht hvm hw hB hz1 hk1 hS => ?_)
  obtain ⟨hP1, hK1, hD1⟩ := hB
  rw [ht] at hP1
  have hK1 := va_K.moved hvm.symm hK1
  obtain ⟨hP, hD⟩ := va_join (wr := [(a 14, .inl (cI, 2001, .inl sf)), (a 15, .inl (cI, 2001, .inl pf))]) (w1 := [(h0, .inr (13, moF a (upd f 18 (nI x1)) w))]) hP hD [0] [1, 2] rfl rfl (by decide) (by decide) hk1 hFc hP1 hD1
  have hK := (hK.sub (tys' := []) [] rfl).app hK1
  generalize H1 = H at hP hS ⊢
  have hP : va_P (dC, dI) vwCl [(a 14, .inl (cI, 2001, .inl sf)), (a 15, .inl (cI, 2001, .inl pf)), (h0, .inr (13, moF a (upd f 18 (nI x1)) w))] H := hP
  have hD : va_D A [(a 14, .inl (cI, 2001, .inl sf)), (a 15, .inl (cI, 2001, .inl pf)), (h0, .inr (13, moF a (upd f 18 (nI x1)) w))] := hD
  have hK : va_K (dC, dI) vwCl [(cB, .byte), (cI, .int), (cJ, .long), (cZ, .boolean)] s := hK
  have hP9 := hP.sub (ws' := [(h0, .inr (13, moF a (upd f 18 (nI x1)) w)), (a 14, .inl (cI, 2001, .inl sf)), (a 15, .inl (cI, 2001, .inl pf))]) [2, 0, 1] rfl
  have hD9 := hD.sub (ws' := [(h0, .inr (13, moF a (upd f 18 (nI x1)) w)), (a 14, .inl (cI, 2001, .inl sf)), (a 15, .inl (cI, 2001, .inl pf))]) [2, 0, 1] (by decide) rfl
  have hK9 := hK.sub (tys' := [(cB, .byte), (cI, .int), (cJ, .long), (cZ, .boolean)]) [0, 1, 2, 3] rfl
  exact W.vret hx hb hr (fun t_ ht hW => ⟨⟨(), rfl, trivial, by rw [ht]; exact hP9, va_K.moved hW.alike hK9, hD9⟩, hS.F ht⟩) hS.2.2 dX12_wrong_14
