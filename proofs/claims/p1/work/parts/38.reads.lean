theorem dX12_rows_0 : decode cX12_rows 0 = .ok (.aload_n 0, 1) := by decide +kernel
theorem dX12_rows_1 : decode cX12_rows 1 = .ok (.getfield 584, 3) := by decide +kernel
theorem dX12_rows_4 : decode cX12_rows 4 = .ok (.ifCond .eq 10, 3) := by decide +kernel
theorem dX12_rows_14 : decode cX12_rows 14 = .ok (.iconst 0, 1) := by decide +kernel
theorem dX12_rows_15 : decode cX12_rows 15 = .ok (.ireturn, 1) := by decide +kernel
abbrev cs_t_X12_rows_0 (cB cI cJ cZ : ClassId) (h0 : Nat) (a : Nat → Nat) (f : Nat → Int32) (w : Int64) : va_W := [(h0, .inr (13, moF a f w))]
abbrev pc_t_X12_rows_0 (dC : Nat → ClassId) (dI : Nat → Nat → Nat) (sz : Nat) (cB cI cJ cZ : ClassId) (h0 : Nat) (a : Nat → Nat) (f : Nat → Int32) (w : Int64) : Array Value → State → Prop := va_Pc [.ref h0] (fun U => U.heap.size = sz ∧ va_P (dC, dI) vwCl [(h0, .inr (13, moF a f w))] U.heap ∧ va_K (dC, dI) vwCl [(cB, .byte), (cI, .int), (cJ, .long), (cZ, .boolean)] U ∧ va_D (fun _ => True) [(h0, .inr (13, moF a f w))])
abbrev qc_t_X12_rows_0 (dC : Nat → ClassId) (dI : Nat → Nat → Nat) (cB cI cJ cZ : ClassId) (h0 : Nat) (a : Nat → Nat) (f : Nat → Int32) (w : Int64) (A : Nat → Prop) : Array Value → State → Outcome → State → Prop := va_Qi (fun (r : Int32) (u : Unit) => match u with | _ => r = 0) (fun (u : Unit) t_ => match u with | _ => va_P (dC, dI) vwCl [(h0, .inr (13, moF a f w))] t_.heap ∧ va_K (dC, dI) vwCl [(cB, .byte), (cI, .int), (cJ, .long), (cZ, .boolean)] t_ ∧ va_D A [(h0, .inr (13, moF a f w))]) A
set_option maxHeartbeats 4000000 in
set_option maxRecDepth 100000 in
theorem t_X12_rows_0 (l : Launch) (dC : Nat → ClassId) (dI : Nat → Nat → Nat) (sz : Nat) (cB cI cJ cZ : ClassId) (h0 : Nat) (a : Nat → Nat) (f : Nat → Int32) (w : Int64) (hh : f 81 = 0) : Met l yX12_rows (wsOf yX12_rows cX12_rows 1 (some .int)) ({ frames := 0, cells := 0, slots := 0, locals := 0 }) (pc_t_X12_rows_0 dC dI sz cB cI cJ cZ h0 a f w) (qc_t_X12_rows_0 dC dI cB cI cJ cZ h0 a f w (va_A (cs_t_X12_rows_0 cB cI cJ cZ h0 a f w) sz)) 0 0 (va_A (cs_t_X12_rows_0 cB cI cJ cZ h0 a f w) sz) := by
  refine Met.ofW (cc := cX12_rows) (maxL := 1) (ret := (some .int)) (by decide) rfl ?_
  intro p e s m args below meth c s₁ B hml hv
  obtain ⟨rfl, hsz, hP, hK, hD0⟩ := hv
  have hx := B.exec
  have hb := B.bytes
  have hr := B.returns
  have hts := atoms_spec (ws := (wsOf yX12_rows cX12_rows 1 (some .int))) B.pre
  have hown : s.vm.findClass RX12 = some m.cls := findClass_of_methodNamed B.named
  have hlocks := B.notSynchronized
  subst hsz
  have hD := hD0.self (sz := s.heap.size)
  generalize hAe : va_A (cs_t_X12_rows_0 cB cI cJ cZ h0 a f w) s.heap.size = A at hD ⊢
  have hA : ∀ q : Nat, s.heap.size ≤ q → A q := fun q h => by rw [← hAe]; exact Or.inr h
  have hS : va_S A s.heap s.heap [] := va_S.rf
  have hP : va_P (dC, dI) vwCl [(h0, .inr (13, moF a f w))] s.heap := hP
  have hl := lv_entry ([.ref h0]) (n := 1) (Nat.le_of_ble_eq_true rfl)
  rw [lg_entry_eq]
  generalize (lg_sl ([.ref h0]) ++ List.replicate (1 - (lg_sl ([.ref h0])).length) Slot.unset).toArray = ls at hl ⊢
  have hl : lv_has ls 1 [(0, .ref h0)] := hl
  refine lv_aload_n hx hb dX12_rows_0 rfl (lv_at hl 0 rfl) ?_
  refine va_get (D := (dC, dI)) (ci := 13) (v := .int (f 81)) (C := RX12) (T := TX12) (N := 115) hx hb hts (fun w h => List.mem_cons_of_mem _ (uG_X12 w h)) hown hK hP 0 rfl rfl 81 (by decide) (hts _ (List.mem_cons_of_mem _ kw_1772)) (fun _ h9 => h9) rfl dX12_rows_1 ?_
  refine lv_if_eq (tgt := 14) hx hb dX12_rows_4 (by decide) (fun c_1 => ?_) (fun c_1 => ?_)
  · skip
    refine lv_iconst (v := 0) hx hb dX12_rows_14 (by decide) ?_
    have hP9 := hP.sub (ws' := [(h0, .inr (13, moF a f w))]) [0] rfl
    have hD9 := hD.sub (ws' := [(h0, .inr (13, moF a f w))]) [0] (by decide) rfl
    have hK9 := hK.sub (tys' := [(cB, .byte), (cI, .int), (cJ, .long), (cZ, .boolean)]) [0, 1, 2, 3] rfl
    exact W.iret (v := 0) hx hb hr (fun t_ ht hW => ⟨⟨0, (), rfl, rfl, by rw [ht]; exact hP9, va_K.moved hW.alike hK9, hD9⟩, hS.F ht⟩) hS.2.2 dX12_rows_15
  · skip
    exact absurd hh c_1
theorem dX12_isChange_0 : decode cX12_isChange 0 = .ok (.iload_n 1, 1) := by decide +kernel
theorem dX12_isChange_1 : decode cX12_isChange 1 = .ok (.ifCond .lt 27, 3) := by decide +kernel
theorem dX12_isChange_4 : decode cX12_isChange 4 = .ok (.iload_n 1, 1) := by decide +kernel
theorem dX12_isChange_5 : decode cX12_isChange 5 = .ok (.aload_n 0, 1) := by decide +kernel
theorem dX12_isChange_6 : decode cX12_isChange 6 = .ok (.getfield 271, 3) := by decide +kernel
theorem dX12_isChange_9 : decode cX12_isChange 9 = .ok (.if_icmp .ge 19, 3) := by decide +kernel
theorem dX12_isChange_12 : decode cX12_isChange 12 = .ok (.iload_n 2, 1) := by decide +kernel
theorem dX12_isChange_13 : decode cX12_isChange 13 = .ok (.ifCond .lt 15, 3) := by decide +kernel
theorem dX12_isChange_16 : decode cX12_isChange 16 = .ok (.iload_n 2, 1) := by decide +kernel
theorem dX12_isChange_17 : decode cX12_isChange 17 = .ok (.aload_n 0, 1) := by decide +kernel
theorem dX12_isChange_18 : decode cX12_isChange 18 = .ok (.getfield 719, 3) := by decide +kernel
theorem dX12_isChange_21 : decode cX12_isChange 21 = .ok (.if_icmp .ge 7, 3) := by decide +kernel
theorem dX12_isChange_28 : decode cX12_isChange 28 = .ok (.iconst 0, 1) := by decide +kernel
theorem dX12_isChange_29 : decode cX12_isChange 29 = .ok (.ireturn, 1) := by decide +kernel
abbrev cs_t_X12_isChange_o (cB cI cJ cZ : ClassId) (h0 : Nat) (a : Nat → Nat) (f : Nat → Int32) (w : Int64) (t1 wd : Nat) (x y : Int32) : va_W := [(h0, .inr (13, moF a (upd (upd f 110 (nI t1)) 101 (nI wd)) w))]
abbrev pc_t_X12_isChange_o (dC : Nat → ClassId) (dI : Nat → Nat → Nat) (sz : Nat) (cB cI cJ cZ : ClassId) (h0 : Nat) (a : Nat → Nat) (f : Nat → Int32) (w : Int64) (t1 wd : Nat) (x y : Int32) : Array Value → State → Prop := va_Pc [.ref h0, .int x, .int y] (fun U => U.heap.size = sz ∧ va_P (dC, dI) vwCl [(h0, .inr (13, moF a (upd (upd f 110 (nI t1)) 101 (nI wd)) w))] U.heap ∧ va_K (dC, dI) vwCl [(cB, .byte), (cI, .int), (cJ, .long), (cZ, .boolean)] U ∧ va_D (fun _ => True) [(h0, .inr (13, moF a (upd (upd f 110 (nI t1)) 101 (nI wd)) w))])
abbrev qc_t_X12_isChange_o (dC : Nat → ClassId) (dI : Nat → Nat → Nat) (cB cI cJ cZ : ClassId) (h0 : Nat) (a : Nat → Nat) (f : Nat → Int32) (w : Int64) (t1 wd : Nat) (x y : Int32) (A : Nat → Prop) : Array Value → State → Outcome → State → Prop := va_Qi (fun (r : Int32) (u : Unit) => match u with | _ => r = 0) (fun (u : Unit) t_ => match u with | _ => va_P (dC, dI) vwCl [(h0, .inr (13, moF a (upd (upd f 110 (nI t1)) 101 (nI wd)) w))] t_.heap ∧ va_K (dC, dI) vwCl [(cB, .byte), (cI, .int), (cJ, .long), (cZ, .boolean)] t_ ∧ va_D A [(h0, .inr (13, moF a (upd (upd f 110 (nI t1)) 101 (nI wd)) w))]) A
set_option maxHeartbeats 4000000 in
set_option maxRecDepth 100000 in
theorem t_X12_isChange_o (l : Launch) (dC : Nat → ClassId) (dI : Nat → Nat → Nat) (sz : Nat) (cB cI cJ cZ : ClassId) (h0 : Nat) (a : Nat → Nat) (f : Nat → Int32) (w : Int64) (t1 wd : Nat) (x y : Int32) (ht1 : t1 ≤ 1300) (hwd : wd ≤ 8) (ho : x < 0 ∨ nI t1 ≤ x ∨ y < 0 ∨ nI wd ≤ y) : Met l yX12_isChange (wsOf yX12_isChange cX12_isChange 3 (some .boolean)) ({ frames := 0, cells := 0, slots := 0, locals := 0 }) (pc_t_X12_isChange_o dC dI sz cB cI cJ cZ h0 a f w t1 wd x y) (qc_t_X12_isChange_o dC dI cB cI cJ cZ h0 a f w t1 wd x y (va_A (cs_t_X12_isChange_o cB cI cJ cZ h0 a f w t1 wd x y) sz)) 0 0 (va_A (cs_t_X12_isChange_o cB cI cJ cZ h0 a f w t1 wd x y) sz) := by
  refine Met.ofW (cc := cX12_isChange) (maxL := 3) (ret := (some .boolean)) (by decide) rfl ?_
  intro p e s m args below meth c s₁ B hml hv
  obtain ⟨rfl, hsz, hP, hK, hD0⟩ := hv
  have hx := B.exec
  have hb := B.bytes
  have hr := B.returns
  have hts := atoms_spec (ws := (wsOf yX12_isChange cX12_isChange 3 (some .boolean))) B.pre
  have hown : s.vm.findClass RX12 = some m.cls := findClass_of_methodNamed B.named
  have hlocks := B.notSynchronized
  subst hsz
  have hD := hD0.self (sz := s.heap.size)
  generalize hAe : va_A (cs_t_X12_isChange_o cB cI cJ cZ h0 a f w t1 wd x y) s.heap.size = A at hD ⊢
  have hA : ∀ q : Nat, s.heap.size ≤ q → A q := fun q h => by rw [← hAe]; exact Or.inr h
  have hS : va_S A s.heap s.heap [] := va_S.rf
  have hP : va_P (dC, dI) vwCl [(h0, .inr (13, moF a (upd (upd f 110 (nI t1)) 101 (nI wd)) w))] s.heap := hP
  have hl := lv_entry ([.ref h0, .int x, .int y]) (n := 3) (Nat.le_of_ble_eq_true rfl)
  rw [lg_entry_eq]
  generalize (lg_sl ([.ref h0, .int x, .int y]) ++ List.replicate (3 - (lg_sl ([.ref h0, .int x, .int y])).length) Slot.unset).toArray = ls at hl ⊢
  have hl : lv_has ls 3 [(0, .ref h0), (1, .int x), (2, .int y)] := hl
  refine lv_iload_n hx hb dX12_isChange_0 rfl (lv_at hl 1 rfl) ?_
  refine lv_if_lt (tgt := 28) hx hb dX12_isChange_1 (by decide) (fun c_1 => ?_) (fun c_1 => ?_)
  · skip
    refine lv_iconst (v := 0) hx hb dX12_isChange_28 (by decide) ?_
    have hP9 := hP.sub (ws' := [(h0, .inr (13, moF a (upd (upd f 110 (nI t1)) 101 (nI wd)) w))]) [0] rfl
    have hD9 := hD.sub (ws' := [(h0, .inr (13, moF a (upd (upd f 110 (nI t1)) 101 (nI wd)) w))]) [0] (by decide) rfl
    have hK9 := hK.sub (tys' := [(cB, .byte), (cI, .int), (cJ, .long), (cZ, .boolean)]) [0, 1, 2, 3] rfl
    exact W.zret (v := 0) hx hb hr (by rfl) (fun t_ ht hW => ⟨⟨0, (), rfl, rfl, by rw [ht]; exact hP9, va_K.moved hW.alike hK9, hD9⟩, hS.F ht⟩) hS.2.2 dX12_isChange_29
  · skip
    refine lv_iload_n hx hb dX12_isChange_4 rfl (lv_at hl 1 rfl) ?_
    refine lv_aload_n hx hb dX12_isChange_5 rfl (lv_at hl 0 rfl) ?_
    refine va_get (D := (dC, dI)) (ci := 13) (v := .int (nI t1)) (C := RX12) (T := TX12) (N := 115) hx hb hts (fun w h => List.mem_cons_of_mem _ (uG_X12 w h)) hown hK hP 0 rfl rfl 110 (by decide) (hts _ (List.mem_cons_of_mem _ kw_1801)) (fun _ h9 => h9) rfl dX12_isChange_6 ?_
    refine lv_icmp_ge (tgt := 28) hx hb dX12_isChange_9 (by decide) (fun c_2 => ?_) (fun c_2 => ?_)
    · skip
      refine lv_iconst (v := 0) hx hb dX12_isChange_28 (by decide) ?_
      have hP9 := hP.sub (ws' := [(h0, .inr (13, moF a (upd (upd f 110 (nI t1)) 101 (nI wd)) w))]) [0] rfl
      have hD9 := hD.sub (ws' := [(h0, .inr (13, moF a (upd (upd f 110 (nI t1)) 101 (nI wd)) w))]) [0] (by decide) rfl
      have hK9 := hK.sub (tys' := [(cB, .byte), (cI, .int), (cJ, .long), (cZ, .boolean)]) [0, 1, 2, 3] rfl
      exact W.zret (v := 0) hx hb hr (by rfl) (fun t_ ht hW => ⟨⟨0, (), rfl, rfl, by rw [ht]; exact hP9, va_K.moved hW.alike hK9, hD9⟩, hS.F ht⟩) hS.2.2 dX12_isChange_29
    · skip
      refine lv_iload_n hx hb dX12_isChange_12 rfl (lv_at hl 2 rfl) ?_
      refine lv_if_lt (tgt := 28) hx hb dX12_isChange_13 (by decide) (fun c_3 => ?_) (fun c_3 => ?_)
      · skip
        refine lv_iconst (v := 0) hx hb dX12_isChange_28 (by decide) ?_
        have hP9 := hP.sub (ws' := [(h0, .inr (13, moF a (upd (upd f 110 (nI t1)) 101 (nI wd)) w))]) [0] rfl
        have hD9 := hD.sub (ws' := [(h0, .inr (13, moF a (upd (upd f 110 (nI t1)) 101 (nI wd)) w))]) [0] (by decide) rfl
        have hK9 := hK.sub (tys' := [(cB, .byte), (cI, .int), (cJ, .long), (cZ, .boolean)]) [0, 1, 2, 3] rfl
        exact W.zret (v := 0) hx hb hr (by rfl) (fun t_ ht hW => ⟨⟨0, (), rfl, rfl, by rw [ht]; exact hP9, va_K.moved hW.alike hK9, hD9⟩, hS.F ht⟩) hS.2.2 dX12_isChange_29
      · skip
        refine lv_iload_n hx hb dX12_isChange_16 rfl (lv_at hl 2 rfl) ?_
        refine lv_aload_n hx hb dX12_isChange_17 rfl (lv_at hl 0 rfl) ?_
        refine va_get (D := (dC, dI)) (ci := 13) (v := .int (nI wd)) (C := RX12) (T := TX12) (N := 115) hx hb hts (fun w h => List.mem_cons_of_mem _ (uG_X12 w h)) hown hK hP 0 rfl rfl 101 (by decide) (hts _ (List.mem_cons_of_mem _ kw_1792)) (fun _ h9 => h9) rfl dX12_isChange_18 ?_
        refine lv_icmp_ge (tgt := 28) hx hb dX12_isChange_21 (by decide) (fun c_4 => ?_) (fun c_4 => ?_)
        · skip
          refine lv_iconst (v := 0) hx hb dX12_isChange_28 (by decide) ?_
          have hP9 := hP.sub (ws' := [(h0, .inr (13, moF a (upd (upd f 110 (nI t1)) 101 (nI wd)) w))]) [0] rfl
          have hD9 := hD.sub (ws' := [(h0, .inr (13, moF a (upd (upd f 110 (nI t1)) 101 (nI wd)) w))]) [0] (by decide) rfl
          have hK9 := hK.sub (tys' := [(cB, .byte), (cI, .int), (cJ, .long), (cZ, .boolean)]) [0, 1, 2, 3] rfl
          exact W.zret (v := 0) hx hb hr (by rfl) (fun t_ ht hW => ⟨⟨0, (), rfl, rfl, by rw [ht]; exact hP9, va_K.moved hW.alike hK9, hD9⟩, hS.F ht⟩) hS.2.2 dX12_isChange_29
        · skip
          exact absurd ho (fun h => h.elim c_1 (fun h => h.elim c_2 (fun h => h.elim c_3 c_4)))
theorem dX12_isAnswer_0 : decode cX12_isAnswer 0 = .ok (.aload_n 0, 1) := by decide +kernel
theorem dX12_isAnswer_1 : decode cX12_isAnswer 1 = .ok (.getfield 584, 3) := by decide +kernel
theorem dX12_isAnswer_4 : decode cX12_isAnswer 4 = .ok (.ifCond .eq 31, 3) := by decide +kernel
theorem dX12_isAnswer_35 : decode cX12_isAnswer 35 = .ok (.iconst 0, 1) := by decide +kernel
theorem dX12_isAnswer_36 : decode cX12_isAnswer 36 = .ok (.ireturn, 1) := by decide +kernel
abbrev cs_t_X12_isAnswer_0 (cB cI cJ cZ : ClassId) (h0 : Nat) (a : Nat → Nat) (f : Nat → Int32) (w : Int64) (t1 wd : Nat) (x y : Int32) : va_W := [(h0, .inr (13, moF a (upd (upd f 100 (nI t1)) 101 (nI wd)) w))]
abbrev pc_t_X12_isAnswer_0 (dC : Nat → ClassId) (dI : Nat → Nat → Nat) (sz : Nat) (cB cI cJ cZ : ClassId) (h0 : Nat) (a : Nat → Nat) (f : Nat → Int32) (w : Int64) (t1 wd : Nat) (x y : Int32) : Array Value → State → Prop := va_Pc [.ref h0, .int x, .int y] (fun U => U.heap.size = sz ∧ va_P (dC, dI) vwCl [(h0, .inr (13, moF a (upd (upd f 100 (nI t1)) 101 (nI wd)) w))] U.heap ∧ va_K (dC, dI) vwCl [(cB, .byte), (cI, .int), (cJ, .long), (cZ, .boolean)] U ∧ va_D (fun _ => True) [(h0, .inr (13, moF a (upd (upd f 100 (nI t1)) 101 (nI wd)) w))])
abbrev qc_t_X12_isAnswer_0 (dC : Nat → ClassId) (dI : Nat → Nat → Nat) (cB cI cJ cZ : ClassId) (h0 : Nat) (a : Nat → Nat) (f : Nat → Int32) (w : Int64) (t1 wd : Nat) (x y : Int32) (A : Nat → Prop) : Array Value → State → Outcome → State → Prop := va_Qi (fun (r : Int32) (u : Unit) => match u with | _ => r = 0) (fun (u : Unit) t_ => match u with | _ => va_P (dC, dI) vwCl [(h0, .inr (13, moF a (upd (upd f 100 (nI t1)) 101 (nI wd)) w))] t_.heap ∧ va_K (dC, dI) vwCl [(cB, .byte), (cI, .int), (cJ, .long), (cZ, .boolean)] t_ ∧ va_D A [(h0, .inr (13, moF a (upd (upd f 100 (nI t1)) 101 (nI wd)) w))]) A
set_option maxHeartbeats 4000000 in
set_option maxRecDepth 100000 in
theorem t_X12_isAnswer_0 (l : Launch) (dC : Nat → ClassId) (dI : Nat → Nat → Nat) (sz : Nat) (cB cI cJ cZ : ClassId) (h0 : Nat) (a : Nat → Nat) (f : Nat → Int32) (w : Int64) (t1 wd : Nat) (x y : Int32) (hh : f 81 = 0) : Met l yX12_isAnswer (wsOf yX12_isAnswer cX12_isAnswer 3 (some .boolean)) ({ frames := 0, cells := 0, slots := 0, locals := 0 }) (pc_t_X12_isAnswer_0 dC dI sz cB cI cJ cZ h0 a f w t1 wd x y) (qc_t_X12_isAnswer_0 dC dI cB cI cJ cZ h0 a f w t1 wd x y (va_A (cs_t_X12_isAnswer_0 cB cI cJ cZ h0 a f w t1 wd x y) sz)) 0 0 (va_A (cs_t_X12_isAnswer_0 cB cI cJ cZ h0 a f w t1 wd x y) sz) := by
  refine Met.ofW (cc := cX12_isAnswer) (maxL := 3) (ret := (some .boolean)) (by decide) rfl ?_
  intro p e s m args below meth c s₁ B hml hv
  obtain ⟨rfl, hsz, hP, hK, hD0⟩ := hv
  have hx := B.exec
  have hb := B.bytes
  have hr := B.returns
  have hts := atoms_spec (ws := (wsOf yX12_isAnswer cX12_isAnswer 3 (some .boolean))) B.pre
  have hown : s.vm.findClass RX12 = some m.cls := findClass_of_methodNamed B.named
  have hlocks := B.notSynchronized
  subst hsz
  have hD := hD0.self (sz := s.heap.size)
  generalize hAe : va_A (cs_t_X12_isAnswer_0 cB cI cJ cZ h0 a f w t1 wd x y) s.heap.size = A at hD ⊢
  have hA : ∀ q : Nat, s.heap.size ≤ q → A q := fun q h => by rw [← hAe]; exact Or.inr h
  have hS : va_S A s.heap s.heap [] := va_S.rf
  have hP : va_P (dC, dI) vwCl [(h0, .inr (13, moF a (upd (upd f 100 (nI t1)) 101 (nI wd)) w))] s.heap := hP
  have hl := lv_entry ([.ref h0, .int x, .int y]) (n := 3) (Nat.le_of_ble_eq_true rfl)
  rw [lg_entry_eq]
  generalize (lg_sl ([.ref h0, .int x, .int y]) ++ List.replicate (3 - (lg_sl ([.ref h0, .int x, .int y])).length) Slot.unset).toArray = ls at hl ⊢
  have hl : lv_has ls 3 [(0, .ref h0), (1, .int x), (2, .int y)] := hl
  refine lv_aload_n hx hb dX12_isAnswer_0 rfl (lv_at hl 0 rfl) ?_
  refine va_get (D := (dC, dI)) (ci := 13) (v := .int (f 81)) (C := RX12) (T := TX12) (N := 115) hx hb hts (fun w h => List.mem_cons_of_mem _ (uG_X12 w h)) hown hK hP 0 rfl rfl 81 (by decide) (hts _ (List.mem_cons_of_mem _ kw_1772)) (fun _ h9 => h9) rfl dX12_isAnswer_1 ?_
  refine lv_if_eq (tgt := 35) hx hb dX12_isAnswer_4 (by decide) (fun c_1 => ?_) (fun c_1 => ?_)
  · skip
    refine lv_iconst (v := 0) hx hb dX12_isAnswer_35 (by decide) ?_
    have hP9 := hP.sub (ws' := [(h0, .inr (13, moF a (upd (upd f 100 (nI t1)) 101 (nI wd)) w))]) [0] rfl
    have hD9 := hD.sub (ws' := [(h0, .inr (13, moF a (upd (upd f 100 (nI t1)) 101 (nI wd)) w))]) [0] (by decide) rfl
    have hK9 := hK.sub (tys' := [(cB, .byte), (cI, .int), (cJ, .long), (cZ, .boolean)]) [0, 1, 2, 3] rfl
    exact W.zret (v := 0) hx hb hr (by rfl) (fun t_ ht hW => ⟨⟨0, (), rfl, rfl, by rw [ht]; exact hP9, va_K.moved hW.alike hK9, hD9⟩, hS.F ht⟩) hS.2.2 dX12_isAnswer_36
  · skip
    exact absurd hh c_1
theorem dX12_changed_0 : decode cX12_changed 0 = .ok (.aload_n 0, 1) := by decide +kernel
theorem dX12_changed_1 : decode cX12_changed 1 = .ok (.iload_n 1, 1) := by decide +kernel
theorem dX12_changed_2 : decode cX12_changed 2 = .ok (.iload_n 2, 1) := by decide +kernel
theorem dX12_changed_3 : decode cX12_changed 3 = .ok (.invokevirtual 737, 3) := by decide +kernel
theorem dX12_changed_6 : decode cX12_changed 6 = .ok (.ifCond .eq 19, 3) := by decide +kernel
theorem dX12_changed_25 : decode cX12_changed 25 = .ok (.lconst 0, 1) := by decide +kernel
theorem dX12_changed_26 : decode cX12_changed 26 = .ok (.lreturn, 1) := by decide +kernel
abbrev cs_t_X12_changed_o (cB cI cJ cZ : ClassId) (h0 : Nat) (a : Nat → Nat) (f : Nat → Int32) (w : Int64) (t1 wd : Nat) (g : Nat → Int64) (x y : Int32) : va_W := [(h0, .inr (13, moF a (upd (upd f 110 (nI t1)) 101 (nI wd)) w)), (a 112, .inl (cJ, 10400, .inr (.inl g)))]
abbrev pc_t_X12_changed_o (dC : Nat → ClassId) (dI : Nat → Nat → Nat) (sz : Nat) (cB cI cJ cZ : ClassId) (h0 : Nat) (a : Nat → Nat) (f : Nat → Int32) (w : Int64) (t1 wd : Nat) (g : Nat → Int64) (x y : Int32) : Array Value → State → Prop := va_Pc [.ref h0, .int x, .int y] (fun U => U.heap.size = sz ∧ va_P (dC, dI) vwCl [(h0, .inr (13, moF a (upd (upd f 110 (nI t1)) 101 (nI wd)) w)), (a 112, .inl (cJ, 10400, .inr (.inl g)))] U.heap ∧ va_K (dC, dI) vwCl [(cB, .byte), (cI, .int), (cJ, .long), (cZ, .boolean)] U ∧ va_D (fun _ => True) [(h0, .inr (13, moF a (upd (upd f 110 (nI t1)) 101 (nI wd)) w)), (a 112, .inl (cJ, 10400, .inr (.inl g)))])
abbrev qc_t_X12_changed_o (dC : Nat → ClassId) (dI : Nat → Nat → Nat) (cB cI cJ cZ : ClassId) (h0 : Nat) (a : Nat → Nat) (f : Nat → Int32) (w : Int64) (t1 wd : Nat) (g : Nat → Int64) (x y : Int32) (A : Nat → Prop) : Array Value → State → Outcome → State → Prop := va_Ql (fun (r : Int64) (u : Unit) => match u with | _ => r = 0) (fun (u : Unit) t_ => match u with | _ => va_P (dC, dI) vwCl [(h0, .inr (13, moF a (upd (upd f 110 (nI t1)) 101 (nI wd)) w)), (a 112, .inl (cJ, 10400, .inr (.inl g)))] t_.heap ∧ va_K (dC, dI) vwCl [(cB, .byte), (cI, .int), (cJ, .long), (cZ, .boolean)] t_ ∧ va_D A [(h0, .inr (13, moF a (upd (upd f 110 (nI t1)) 101 (nI wd)) w)), (a 112, .inl (cJ, 10400, .inr (.inl g)))]) A
set_option maxHeartbeats 4000000 in
set_option maxRecDepth 100000 in
theorem t_X12_changed_o (l : Launch) (dC : Nat → ClassId) (dI : Nat → Nat → Nat) (sz : Nat) (cB cI cJ cZ : ClassId) (h0 : Nat) (a : Nat → Nat) (f : Nat → Int32) (w : Int64) (t1 wd : Nat) (g : Nat → Int64) (x y : Int32) (ht1 : t1 ≤ 1300) (hwd : wd ≤ 8) (ho : x < 0 ∨ nI t1 ≤ x ∨ y < 0 ∨ nI wd ≤ y) : Met l yX12_changed (wsOf yX12_changed cX12_changed 3 (some .long)) ({ frames := 1, cells := 0, slots := 0, locals := 60 }) (pc_t_X12_changed_o dC dI sz cB cI cJ cZ h0 a f w t1 wd g x y) (qc_t_X12_changed_o dC dI cB cI cJ cZ h0 a f w t1 wd g x y (va_A (cs_t_X12_changed_o cB cI cJ cZ h0 a f w t1 wd g x y) sz)) 0 0 (va_A (cs_t_X12_changed_o cB cI cJ cZ h0 a f w t1 wd g x y) sz) := by
  refine Met.ofW (cc := cX12_changed) (maxL := 3) (ret := (some .long)) (by decide) rfl ?_
  intro p e s m args below meth c s₁ B hml hv
  obtain ⟨rfl, hsz, hP, hK, hD0⟩ := hv
  have hx := B.exec
  have hb := B.bytes
  have hr := B.returns
  have hts := atoms_spec (ws := (wsOf yX12_changed cX12_changed 3 (some .long))) B.pre
  have hown : s.vm.findClass RX12 = some m.cls := findClass_of_methodNamed B.named
  have hlocks := B.notSynchronized
  subst hsz
  have hD := hD0.self (sz := s.heap.size)
  generalize hAe : va_A (cs_t_X12_changed_o cB cI cJ cZ h0 a f w t1 wd g x y) s.heap.size = A at hD ⊢
  have hA : ∀ q : Nat, s.heap.size ≤ q → A q := fun q h => by rw [← hAe]; exact Or.inr h
  have hS : va_S A s.heap s.heap [] := va_S.rf
  have hP : va_P (dC, dI) vwCl [(h0, .inr (13, moF a (upd (upd f 110 (nI t1)) 101 (nI wd)) w)), (a 112, .inl (cJ, 10400, .inr (.inl g)))] s.heap := hP
  have hl := lv_entry ([.ref h0, .int x, .int y]) (n := 3) (Nat.le_of_ble_eq_true rfl)
  rw [lg_entry_eq]
  generalize (lg_sl ([.ref h0, .int x, .int y]) ++ List.replicate (3 - (lg_sl ([.ref h0, .int x, .int y])).length) Slot.unset).toArray = ls at hl ⊢
  have hl : lv_has ls 3 [(0, .ref h0), (1, .int x), (2, .int y)] := hl
  refine lv_aload_n hx hb dX12_changed_0 rfl (lv_at hl 0 rfl) ?_
  refine lv_iload_n hx hb dX12_changed_1 rfl (lv_at hl 1 rfl) ?_
  refine lv_iload_n hx hb dX12_changed_2 rfl (lv_at hl 2 rfl) ?_
  have hPc := hP.sub (ws' := [(h0, .inr (13, moF a (upd (upd f 110 (nI t1)) 101 (nI wd)) w))]) [0] rfl
  have hDc := hD.sub (ws' := [(h0, .inr (13, moF a (upd (upd f 110 (nI t1)) 101 (nI wd)) w))]) [0] (by decide) rfl
  have hKc := hK.sub (tys' := [(cB, .byte), (cI, .int), (cJ, .long), (cZ, .boolean)]) [0, 1, 2, 3] rfl
  have hFc := va_free (wc := [(h0, .inr (13, moF a (upd (upd f 110 (nI t1)) 101 (nI wd)) w))]) hD hS hA [0] rfl
  refine va_calli (va_runV (As := [.int x, .int y]) (rest := []) ⟨hx, hb, hml, hown, hts⟩ (t_X12_isChange_o l dC dI s.heap.size cB cI cJ cZ h0 a f w t1 wd x y ht1 hwd ho) (cwV 2 hts (gd_all (in_V kw_2472 kw_2474 kw_178 kw_191 kc_X12_isChange)) rfl rfl rfl (by decide +kernel) ⟨Nat.le_of_ble_eq_true rfl, Nat.le_of_ble_eq_true rfl⟩) ⟨fun a U g mk q => by obtain ⟨q0, q1, qP, qK, qD⟩ := q; exact ⟨q0, q1, qP, va_K.moved (u := U) (U := U.calling g mk a) (Vm.Alike.refl U.vm) qK, qD⟩, va_recv hKc hPc (ci := 13) (q0 := 0) rfl rfl, fun U hU hW => ⟨rfl, by rw [hU], by rw [hU]; exact hPc, va_K.moved hW.alike hKc, hDc.weaken (fun _ _ _ _ => trivial)⟩⟩ rfl rfl hl.1 rfl (lv_room (Nat.le_of_ble_eq_true rfl)) dX12_changed_3 ⟨Nat.le_of_ble_eq_true rfl, Nat.le_of_ble_eq_true rfl⟩) hS (fun q _ h => hFc q h) hFc (fun r_1 u t_ H1 locs ht hvm hw hB hz1 hk1 hS => ?_)
  obtain ⟨hP1, hK1, hD1⟩ := hB
  rw [ht] at hP1
  have hK1 := va_K.moved hvm.symm hK1
  obtain ⟨hP, hD⟩ := va_join (wr := [(a 112, .inl (cJ, 10400, .inr (.inl g)))]) (w1 := [(h0, .inr (13, moF a (upd (upd f 110 (nI t1)) 101 (nI wd)) w))]) hP hD [0] [1] rfl rfl (by decide) (by decide) hk1 hFc hP1 hD1
  have hK := (hK.sub (tys' := []) [] rfl).app hK1
  generalize H1 = H at hP hS ⊢
  have hP : va_P (dC, dI) vwCl [(a 112, .inl (cJ, 10400, .inr (.inl g))), (h0, .inr (13, moF a (upd (upd f 110 (nI t1)) 101 (nI wd)) w))] H := hP
  have hD : va_D A [(a 112, .inl (cJ, 10400, .inr (.inl g))), (h0, .inr (13, moF a (upd (upd f 110 (nI t1)) 101 (nI wd)) w))] := hD
  have hK : va_K (dC, dI) vwCl [(cB, .byte), (cI, .int), (cJ, .long), (cZ, .boolean)] s := hK
  have er_1 : r_1 = 0 := hw
  rw [er_1]
  refine lv_if_eq (tgt := 25) hx hb dX12_changed_6 (by decide) (fun c_2 => ?_) (fun c_2 => ?_)
  · skip
    refine lv_lconst (v := 0) hx hb dX12_changed_25 (by decide) ?_
    have hP9 := hP.sub (ws' := [(h0, .inr (13, moF a (upd (upd f 110 (nI t1)) 101 (nI wd)) w)), (a 112, .inl (cJ, 10400, .inr (.inl g)))]) [1, 0] rfl
    have hD9 := hD.sub (ws' := [(h0, .inr (13, moF a (upd (upd f 110 (nI t1)) 101 (nI wd)) w)), (a 112, .inl (cJ, 10400, .inr (.inl g)))]) [1, 0] (by decide) rfl
    have hK9 := hK.sub (tys' := [(cB, .byte), (cI, .int), (cJ, .long), (cZ, .boolean)]) [0, 1, 2, 3] rfl
    exact W.lret (v := 0) hx hb hr (fun t_ ht hW => ⟨⟨0, (), rfl, rfl, by rw [ht]; exact hP9, va_K.moved hW.alike hK9, hD9⟩, hS.F ht⟩) hS.2.2 dX12_changed_26
  · skip
    exact absurd c_2 (by decide)
theorem dX12_changedNull_0 : decode cX12_changedNull 0 = .ok (.aload_n 0, 1) := by decide +kernel
theorem dX12_changedNull_1 : decode cX12_changedNull 1 = .ok (.iload_n 1, 1) := by decide +kernel
theorem dX12_changedNull_2 : decode cX12_changedNull 2 = .ok (.iload_n 2, 1) := by decide +kernel
theorem dX12_changedNull_3 : decode cX12_changedNull 3 = .ok (.invokevirtual 737, 3) := by decide +kernel
theorem dX12_changedNull_6 : decode cX12_changedNull 6 = .ok (.ifCond .eq 23, 3) := by decide +kernel
theorem dX12_changedNull_29 : decode cX12_changedNull 29 = .ok (.iconst 0, 1) := by decide +kernel
theorem dX12_changedNull_30 : decode cX12_changedNull 30 = .ok (.ireturn, 1) := by decide +kernel
abbrev cs_t_X12_changedNull_o (cB cI cJ cZ : ClassId) (h0 : Nat) (a : Nat → Nat) (f : Nat → Int32) (w : Int64) (t1 wd : Nat) (g : Nat → Int32) (x y : Int32) : va_W := [(h0, .inr (13, moF a (upd (upd f 110 (nI t1)) 101 (nI wd)) w)), (a 113, .inl (cZ, 10400, .inl g))]
abbrev pc_t_X12_changedNull_o (dC : Nat → ClassId) (dI : Nat → Nat → Nat) (sz : Nat) (cB cI cJ cZ : ClassId) (h0 : Nat) (a : Nat → Nat) (f : Nat → Int32) (w : Int64) (t1 wd : Nat) (g : Nat → Int32) (x y : Int32) : Array Value → State → Prop := va_Pc [.ref h0, .int x, .int y] (fun U => U.heap.size = sz ∧ va_P (dC, dI) vwCl [(h0, .inr (13, moF a (upd (upd f 110 (nI t1)) 101 (nI wd)) w)), (a 113, .inl (cZ, 10400, .inl g))] U.heap ∧ va_K (dC, dI) vwCl [(cB, .byte), (cI, .int), (cJ, .long), (cZ, .boolean)] U ∧ va_D (fun _ => True) [(h0, .inr (13, moF a (upd (upd f 110 (nI t1)) 101 (nI wd)) w)), (a 113, .inl (cZ, 10400, .inl g))])
abbrev qc_t_X12_changedNull_o (dC : Nat → ClassId) (dI : Nat → Nat → Nat) (cB cI cJ cZ : ClassId) (h0 : Nat) (a : Nat → Nat) (f : Nat → Int32) (w : Int64) (t1 wd : Nat) (g : Nat → Int32) (x y : Int32) (A : Nat → Prop) : Array Value → State → Outcome → State → Prop := va_Qi (fun (r : Int32) (u : Unit) => match u with | _ => r = 0) (fun (u : Unit) t_ => match u with | _ => va_P (dC, dI) vwCl [(h0, .inr (13, moF a (upd (upd f 110 (nI t1)) 101 (nI wd)) w)), (a 113, .inl (cZ, 10400, .inl g))] t_.heap ∧ va_K (dC, dI) vwCl [(cB, .byte), (cI, .int), (cJ, .long), (cZ, .boolean)] t_ ∧ va_D A [(h0, .inr (13, moF a (upd (upd f 110 (nI t1)) 101 (nI wd)) w)), (a 113, .inl (cZ, 10400, .inl g))]) A
set_option maxHeartbeats 4000000 in
set_option maxRecDepth 100000 in
theorem t_X12_changedNull_o (l : Launch) (dC : Nat → ClassId) (dI : Nat → Nat → Nat) (sz : Nat) (cB cI cJ cZ : ClassId) (h0 : Nat) (a : Nat → Nat) (f : Nat → Int32) (w : Int64) (t1 wd : Nat) (g : Nat → Int32) (x y : Int32) (ht1 : t1 ≤ 1300) (hwd : wd ≤ 8) (ho : x < 0 ∨ nI t1 ≤ x ∨ y < 0 ∨ nI wd ≤ y) : Met l yX12_changedNull (wsOf yX12_changedNull cX12_changedNull 3 (some .boolean)) ({ frames := 1, cells := 0, slots := 0, locals := 60 }) (pc_t_X12_changedNull_o dC dI sz cB cI cJ cZ h0 a f w t1 wd g x y) (qc_t_X12_changedNull_o dC dI cB cI cJ cZ h0 a f w t1 wd g x y (va_A (cs_t_X12_changedNull_o cB cI cJ cZ h0 a f w t1 wd g x y) sz)) 0 0 (va_A (cs_t_X12_changedNull_o cB cI cJ cZ h0 a f w t1 wd g x y) sz) := by
  refine Met.ofW (cc := cX12_changedNull) (maxL := 3) (ret := (some .boolean)) (by decide) rfl ?_
  intro p e s m args below meth c s₁ B hml hv
  obtain ⟨rfl, hsz, hP, hK, hD0⟩ := hv
  have hx := B.exec
  have hb := B.bytes
  have hr := B.returns
  have hts := atoms_spec (ws := (wsOf yX12_changedNull cX12_changedNull 3 (some .boolean))) B.pre
  have hown : s.vm.findClass RX12 = some m.cls := findClass_of_methodNamed B.named
  have hlocks := B.notSynchronized
  subst hsz
  have hD := hD0.self (sz := s.heap.size)
  generalize hAe : va_A (cs_t_X12_changedNull_o cB cI cJ cZ h0 a f w t1 wd g x y) s.heap.size = A at hD ⊢
  have hA : ∀ q : Nat, s.heap.size ≤ q → A q := fun q h => by rw [← hAe]; exact Or.inr h
  have hS : va_S A s.heap s.heap [] := va_S.rf
  have hP : va_P (dC, dI) vwCl [(h0, .inr (13, moF a (upd (upd f 110 (nI t1)) 101 (nI wd)) w)), (a 113, .inl (cZ, 10400, .inl g))] s.heap := hP
  have hl := lv_entry ([.ref h0, .int x, .int y]) (n := 3) (Nat.le_of_ble_eq_true rfl)
  rw [lg_entry_eq]
  generalize (lg_sl ([.ref h0, .int x, .int y]) ++ List.replicate (3 - (lg_sl ([.ref h0, .int x, .int y])).length) Slot.unset).toArray = ls at hl ⊢
  have hl : lv_has ls 3 [(0, .ref h0), (1, .int x), (2, .int y)] := hl
  refine lv_aload_n hx hb dX12_changedNull_0 rfl (lv_at hl 0 rfl) ?_
  refine lv_iload_n hx hb dX12_changedNull_1 rfl (lv_at hl 1 rfl) ?_
  refine lv_iload_n hx hb dX12_changedNull_2 rfl (lv_at hl 2 rfl) ?_
  have hPc := hP.sub (ws' := [(h0, .inr (13, moF a (upd (upd f 110 (nI t1)) 101 (nI wd)) w))]) [0] rfl
  have hDc := hD.sub (ws' := [(h0, .inr (13, moF a (upd (upd f 110 (nI t1)) 101 (nI wd)) w))]) [0] (by decide) rfl
  have hKc := hK.sub (tys' := [(cB, .byte), (cI, .int), (cJ, .long), (cZ, .boolean)]) [0, 1, 2, 3] rfl
  have hFc := va_free (wc := [(h0, .inr (13, moF a (upd (upd f 110 (nI t1)) 101 (nI wd)) w))]) hD hS hA [0] rfl
  refine va_calli (va_runV (As := [.int x, .int y]) (rest := []) ⟨hx, hb, hml, hown, hts⟩ (t_X12_isChange_o l dC dI s.heap.size cB cI cJ cZ h0 a f w t1 wd x y ht1 hwd ho) (cwV 2 hts (gd_all (in_V kw_2472 kw_2474 kw_178 kw_191 kc_X12_isChange)) rfl rfl rfl (by decide +kernel) ⟨Nat.le_of_ble_eq_true rfl, Nat.le_of_ble_eq_true rfl⟩) ⟨fun a U g mk q => by obtain ⟨q0, q1, qP, qK, qD⟩ := q; exact ⟨q0, q1, qP, va_K.moved (u := U) (U := U.calling g mk a) (Vm.Alike.refl U.vm) qK, qD⟩, va_recv hKc hPc (ci := 13) (q0 := 0) rfl rfl, fun U hU hW => ⟨rfl, by rw [hU], by rw [hU]; exact hPc, va_K.moved hW.alike hKc, hDc.weaken (fun _ _ _ _ => trivial)⟩⟩ rfl rfl hl.1 rfl (lv_room (Nat.le_of_ble_eq_true rfl)) dX12_changedNull_3 ⟨Nat.le_of_ble_eq_true rfl, Nat.le_of_ble_eq_true rfl⟩) hS (fun q _ h => hFc q h) hFc (fun r_1 u t_ H1 locs ht hvm hw hB hz1 hk1 hS => ?_)
  obtain ⟨hP1, hK1, hD1⟩ := hB
  rw [ht] at hP1
  have hK1 := va_K.moved hvm.symm hK1
  obtain ⟨hP, hD⟩ := va_join (wr := [(a 113, .inl (cZ, 10400, .inl g))]) (w1 := [(h0, .inr (13, moF a (upd (upd f 110 (nI t1)) 101 (nI wd)) w))]) hP hD [0] [1] rfl rfl (by decide) (by decide) hk1 hFc hP1 hD1
  have hK := (hK.sub (tys' := []) [] rfl).app hK1
  generalize H1 = H at hP hS ⊢
  have hP : va_P (dC, dI) vwCl [(a 113, .inl (cZ, 10400, .inl g)), (h0, .inr (13, moF a (upd (upd f 110 (nI t1)) 101 (nI wd)) w))] H := hP
  have hD : va_D A [(a 113, .inl (cZ, 10400, .inl g)), (h0, .inr (13, moF a (upd (upd f 110 (nI t1)) 101 (nI wd)) w))] := hD
  have hK : va_K (dC, dI) vwCl [(cB, .byte), (cI, .int), (cJ, .long), (cZ, .boolean)] s := hK
  have er_1 : r_1 = 0 := hw
  rw [er_1]
  refine lv_if_eq (tgt := 29) hx hb dX12_changedNull_6 (by decide) (fun c_2 => ?_) (fun c_2 => ?_)
  · skip
    refine lv_iconst (v := 0) hx hb dX12_changedNull_29 (by decide) ?_
    have hP9 := hP.sub (ws' := [(h0, .inr (13, moF a (upd (upd f 110 (nI t1)) 101 (nI wd)) w)), (a 113, .inl (cZ, 10400, .inl g))]) [1, 0] rfl
    have hD9 := hD.sub (ws' := [(h0, .inr (13, moF a (upd (upd f 110 (nI t1)) 101 (nI wd)) w)), (a 113, .inl (cZ, 10400, .inl g))]) [1, 0] (by decide) rfl
    have hK9 := hK.sub (tys' := [(cB, .byte), (cI, .int), (cJ, .long), (cZ, .boolean)]) [0, 1, 2, 3] rfl
    exact W.zret (v := 0) hx hb hr (by rfl) (fun t_ ht hW => ⟨⟨0, (), rfl, rfl, by rw [ht]; exact hP9, va_K.moved hW.alike hK9, hD9⟩, hS.F ht⟩) hS.2.2 dX12_changedNull_30
  · skip
    exact absurd c_2 (by decide)
theorem dX12_at_0 : decode cX12_at 0 = .ok (.aload_n 0, 1) := by decide +kernel
theorem dX12_at_1 : decode cX12_at 1 = .ok (.iload_n 1, 1) := by decide +kernel
theorem dX12_at_2 : decode cX12_at 2 = .ok (.iload_n 2, 1) := by decide +kernel
theorem dX12_at_3 : decode cX12_at 3 = .ok (.invokevirtual 740, 3) := by decide +kernel
theorem dX12_at_6 : decode cX12_at 6 = .ok (.ifCond .eq 19, 3) := by decide +kernel
theorem dX12_at_25 : decode cX12_at 25 = .ok (.lconst 0, 1) := by decide +kernel
theorem dX12_at_26 : decode cX12_at 26 = .ok (.lreturn, 1) := by decide +kernel
theorem dX12_isNull_0 : decode cX12_isNull 0 = .ok (.aload_n 0, 1) := by decide +kernel
theorem dX12_isNull_1 : decode cX12_isNull 1 = .ok (.iload_n 1, 1) := by decide +kernel
theorem dX12_isNull_2 : decode cX12_isNull 2 = .ok (.iload_n 2, 1) := by decide +kernel
theorem dX12_isNull_3 : decode cX12_isNull 3 = .ok (.invokevirtual 740, 3) := by decide +kernel
theorem dX12_isNull_6 : decode cX12_isNull 6 = .ok (.ifCond .eq 23, 3) := by decide +kernel
theorem dX12_isNull_29 : decode cX12_isNull 29 = .ok (.iconst 0, 1) := by decide +kernel
theorem dX12_isNull_30 : decode cX12_isNull 30 = .ok (.ireturn, 1) := by decide +kernel
