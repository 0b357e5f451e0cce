
theorem dX12_rows_0 : decode cX12_rows 0 = .ok (.aload_n 0, 1) := by decide +kernel
theorem dX12_rows_1 : decode cX12_rows 1 = .ok (.getfield 584, 3) := by decide +kernel
theorem dX12_rows_4 : decode cX12_rows 4 = .ok (.ifCond .eq 10, 3) := by decide +kernel
theorem dX12_rows_7 : decode cX12_rows 7 = .ok (.aload_n 0, 1) := by decide +kernel
theorem dX12_rows_8 : decode cX12_rows 8 = .ok (.getfield 724, 3) := by decide +kernel
theorem dX12_rows_11 : decode cX12_rows 11 = .ok (.goto 4, 3) := by decide +kernel
theorem dX12_rows_14 : decode cX12_rows 14 = .ok (.iconst 0, 1) := by decide +kernel
theorem dX12_rows_15 : decode cX12_rows 15 = .ok (.ireturn, 1) := by decide +kernel
abbrev cs_t_X12_rows_1 (cB cI cJ cZ : ClassId) (h0 : Nat) (a : Nat → Nat) (f : Nat → Int32) (w : Int64) : va_W := [(h0, .inr (13, moF a f w))]
abbrev pc_t_X12_rows_1 (dC : Nat → ClassId) (dI : Nat → Nat → Nat) (sz : Nat) (cB cI cJ cZ : ClassId) (h0 : Nat) (a : Nat → Nat) (f : Nat → Int32) (w : Int64) : Array Value → State → Prop := va_Pc [.ref h0] (fun U => U.heap.size = sz ∧ va_P (dC, dI) vwCl [(h0, .inr (13, moF a f w))] U.heap ∧ va_K (dC, dI) vwCl [(cB, .byte), (cI, .int), (cJ, .long), (cZ, .boolean)] U ∧ va_D (fun _ => True) [(h0, .inr (13, moF a f w))])
abbrev qc_t_X12_rows_1 (dC : Nat → ClassId) (dI : Nat → Nat → Nat) (cB cI cJ cZ : ClassId) (h0 : Nat) (a : Nat → Nat) (f : Nat → Int32) (w : Int64) (A : Nat → Prop) : Array Value → State → Outcome → State → Prop := va_Qi (fun (r : Int32) (u : Unit) => match u with | _ => r = f 100) (fun (u : Unit) t_ => match u with | _ => va_P (dC, dI) vwCl [(h0, .inr (13, moF a f w))] t_.heap ∧ va_K (dC, dI) vwCl [(cB, .byte), (cI, .int), (cJ, .long), (cZ, .boolean)] t_ ∧ va_D A [(h0, .inr (13, moF a f w))]) A
set_option maxHeartbeats 4000000 in
set_option maxRecDepth 100000 in
theorem t_X12_rows_1 (l : Launch) (dC : Nat → ClassId) (dI : Nat → Nat → Nat) (sz : Nat) (cB cI cJ cZ : ClassId) (h0 : Nat) (a : Nat → Nat) (f : Nat → Int32) (w : Int64) (hh : ¬ f 81 = 0) : Met l yX12_rows (wsOf yX12_rows cX12_rows 1 (some .int)) ({ frames := 0, cells := 0, slots := 0, locals := 0 }) (pc_t_X12_rows_1 dC dI sz cB cI cJ cZ h0 a f w) (qc_t_X12_rows_1 dC dI cB cI cJ cZ h0 a f w (va_A (cs_t_X12_rows_1 cB cI cJ cZ h0 a f w) sz)) 0 0 (va_A (cs_t_X12_rows_1 cB cI cJ cZ h0 a f w) sz) := by
  refine Met.ofW (cc := cX12_rows) (maxL := 1) (ret := (some .int)) (by decide) rfl ?_
  intro p e s m args below meth c s₁ B hml hv
  obtain ⟨rfl, hsz, hP, hK, hD0⟩ := hv
  have hx := B.exec
  have hb := B.bytes
  have hr := B.returns
  have hts := atoms_spec (ws := (wsOf yX12_rows cX12_rows 1 (some .int))) B.pre
  have hown : s.vm.findClass RX12 = some m.cls := findClass_of_methodNamed B.named
  have hlocks := B.notSynchronized
  subst hsz
  have hD := hD0.self (sz := s.heap.size)
  generalize hAe : va_A (cs_t_X12_rows_1 cB cI cJ cZ h0 a f w) s.heap.size = A at hD ⊢
  have hA : ∀ q : Nat, s.heap.size ≤ q → A q := fun q h => by rw [← hAe]; exact Or.inr h
  have hS : va_S A s.heap s.heap [] := va_S.rf
  have hP : va_P (dC, dI) vwCl [(h0, .inr (13, moF a f w))] s.heap := hP
  have hl := lv_entry ([.ref h0]) (n := 1) (Nat.le_of_ble_eq_true rfl)
  rw [lg_entry_eq]
  generalize (lg_sl ([.ref h0]) ++ List.replicate (1 - (lg_sl ([.ref h0])).length) Slot.unset).toArray = ls at hl ⊢
  have hl : lv_has ls 1 [(0, .ref h0)] := hl
  refine lv_aload_n hx hb dX12_rows_0 rfl (lv_at hl 0 rfl) ?_
  refine va_get (D := (dC, dI)) (ci := 13) (v := .int (f 81)) (C := RX12) (T := TX12) (N := 115) hx hb hts (fun w h => List.mem_cons_of_mem _ (uG_X12 w h)) hown hK hP 0 rfl rfl 81 (by decide) (hts _ (List.mem_cons_of_mem _ kw_1772)) (fun _ h9 => h9) rfl dX12_rows_1 ?_
  refine lv_if_eq (tgt := 14) hx hb dX12_rows_4 (by decide) (fun c_1 => ?_) (fun c_1 => ?_)
  · skip
    exact absurd c_1 hh
  · skip
    refine lv_aload_n hx hb dX12_rows_7 rfl (lv_at hl 0 rfl) ?_
    refine va_get (D := (dC, dI)) (ci := 13) (v := .int (f 100)) (C := RX12) (T := TX12) (N := 115) hx hb hts (fun w h => List.mem_cons_of_mem _ (uG_X12 w h)) hown hK hP 0 rfl rfl 100 (by decide) (hts _ (List.mem_cons_of_mem _ kw_1791)) (fun _ h9 => h9) rfl dX12_rows_8 ?_
    refine lv_goto (tgt := 15) hx hb dX12_rows_11 (by decide) ?_
    have hP9 := hP.sub (ws' := [(h0, .inr (13, moF a f w))]) [0] rfl
    have hD9 := hD.sub (ws' := [(h0, .inr (13, moF a f w))]) [0] (by decide) rfl
    have hK9 := hK.sub (tys' := [(cB, .byte), (cI, .int), (cJ, .long), (cZ, .boolean)]) [0, 1, 2, 3] rfl
    exact W.iret (v := (f 100)) hx hb hr (fun t_ ht hW => ⟨⟨(f 100), (), rfl, rfl, by rw [ht]; exact hP9, va_K.moved hW.alike hK9, hD9⟩, hS.F ht⟩) hS.2.2 dX12_rows_15
abbrev cs_t_X12_rows_0 (cB cI cJ cZ : ClassId) (h0 : Nat) (a : Nat → Nat) (f : Nat → Int32) (w : Int64) : va_W := [(h0, .inr (13, moF a f w))]
abbrev pc_t_X12_rows_0 (dC : Nat → ClassId) (dI : Nat → Nat → Nat) (sz : Nat) (cB cI cJ cZ : ClassId) (h0 : Nat) (a : Nat → Nat) (f : Nat → Int32) (w : Int64) : Array Value → State → Prop := va_Pc [.ref h0] (fun U => U.heap.size = sz ∧ va_P (dC, dI) vwCl [(h0, .inr (13, moF a f w))] U.heap ∧ va_K (dC, dI) vwCl [(cB, .byte), (cI, .int), (cJ, .long), (cZ, .boolean)] U ∧ va_D (fun _ => True) [(h0, .inr (13, moF a f w))])
abbrev qc_t_X12_rows_0 (dC : Nat → ClassId) (dI : Nat → Nat → Nat) (cB cI cJ cZ : ClassId) (h0 : Nat) (a : Nat → Nat) (f : Nat → Int32) (w : Int64) (A : Nat → Prop) : Array Value → State → Outcome → State → Prop := va_Qi (fun (r : Int32) (u : Unit) => match u with | _ => r = 0) (fun (u : Unit) t_ => match u with | _ => va_P (dC, dI) vwCl [(h0, .inr (13, moF a f w))] t_.heap ∧ va_K (dC, dI) vwCl [(cB, .byte), (cI, .int), (cJ, .long), (cZ, .boolean)] t_ ∧ va_D A [(h0, .inr (13, moF a f w))]) A
set_option maxHeartbeats 4000000 in
set_option maxRecDepth 100000 in
theorem t_X12_rows_0 (l : Launch) (dC : Nat → ClassId) (dI : Nat → Nat → Nat) (sz : Nat) (cB cI cJ cZ : ClassId) (h0 : Nat) (a : Nat → Nat) (f : Nat → Int32) (w : Int64) (hh : f 81 = 0) : Met l yX12_rows (wsOf yX12_rows cX12_rows 1 (some .int)) ({ frames := 0, cells := 0, slots := 0, locals := 0 }) (pc_t_X12_rows_0 dC dI sz cB cI cJ cZ h0 a f w) (qc_t_X12_rows_0 dC dI cB cI cJ cZ h0 a f w (va_A (cs_t_X12_rows_0 cB cI cJ cZ h0 a f w) sz)) 0 0 (va_A (cs_t_X12_rows_0 cB cI cJ cZ h0 a f w) sz) := by
  refine Met.ofW (cc := cX12_rows) (maxL := 1) (ret := (some .int)) (by decide) rfl ?_
  intro p e s m args below meth c s₁ B hml hv
  obtain ⟨rfl, hsz, hP, hK, hD0⟩ := hv
  have hx := B.exec
  have hb := B.bytes
  have hr := B.returns
  have hts := atoms_spec (ws := (wsOf yX12_rows cX12_rows 1 (some .int))) B.pre
  have hown : s.vm.findClass RX12 = some m.cls := findClass_of_methodNamed B.named
  have hlocks := B.notSynchronized
  subst hsz
  have hD := hD0.self (sz := s.heap.size)
  generalize hAe : va_A (cs_t_X12_rows_0 cB cI cJ cZ h0 a f w) s.heap.size = A at hD ⊢
  have hA : ∀ q : Nat, s.heap.size ≤ q → A q := fun q h => by rw [← hAe]; exact Or.inr h
  have hS : va_S A s.heap s.heap [] := va_S.rf
  have hP : va_P (dC, dI) vwCl [(h0, .inr (13, moF a f w))] s.heap := hP
  have hl := lv_entry ([.ref h0]) (n := 1) (Nat.le_of_ble_eq_true rfl)
  rw [lg_entry_eq]
  generalize (lg_sl ([.ref h0]) ++ List.replicate (1 - (lg_sl ([.ref h0])).length) Slot.unset).toArray = ls at hl ⊢
  have hl : lv_has ls 1 [(0, .ref h0)] := hl
  refine lv_aload_n hx hb dX12_rows_0 rfl (lv_at hl 0 rfl) ?_
  refine va_get (D := (dC, dI)) (ci := 13) (v := .int (f 81)) (C := RX12) (T := TX12) (N := 115) hx hb hts (fun w h => List.mem_cons_of_mem _ (uG_X12 w h)) hown hK hP 0 rfl rfl 81 (by decide) (hts _ (List.mem_cons_of_mem _ kw_1772)) (fun _ h9 => h9) rfl dX12_rows_1 ?_
  refine lv_if_eq (tgt := 14) hx hb dX12_rows_4 (by decide) (fun c_1 => ?_) (fun c_1 => ?_)
  · skip
    refine lv_iconst (v := 0) hx hb dX12_rows_14 (by decide) ?_
    have hP9 := hP.sub (ws' := [(h0, .inr (13, moF a f w))]) [0] rfl
    have hD9 := hD.sub (ws' := [(h0, .inr (13, moF a f w))]) [0] (by decide) rfl
    have hK9 := hK.sub (tys' := [(cB, .byte), (cI, .int), (cJ, .long), (cZ, .boolean)]) [0, 1, 2, 3] rfl
    exact W.iret (v := 0) hx hb hr (fun t_ ht hW => ⟨⟨0, (), rfl, rfl, by rw [ht]; exact hP9, va_K.moved hW.alike hK9, hD9⟩, hS.F ht⟩) hS.2.2 dX12_rows_15
  · skip
    exact absurd hh c_1
theorem dX12_isChange_0 : decode cX12_isChange 0 = .ok (.iload_n 1, 1) := by decide +kernel
theorem dX12_isChange_1 : decode cX12_isChange 1 = .ok (.ifCond .lt 27, 3) := by decide +kernel
theorem dX12_isChange_4 : decode cX12_isChange 4 = .ok (.iload_n 1, 1) := by decide +kernel
theorem dX12_isChange_5 : decode cX12_isChange 5 = .ok (.aload_n 0, 1) := by decide +kernel
theorem dX12_isChange_6 : decode cX12_isChange 6 = .ok (.getfield 271, 3) := by decide +kernel
theorem dX12_isChange_9 : decode cX12_isChange 9 = .ok (.if_icmp .ge 19, 3) := by decide +kernel
theorem dX12_isChange_12 : decode cX12_isChange 12 = .ok (.iload_n 2, 1) := by decide +kernel
theorem dX12_isChange_13 : decode cX12_isChange 13 = .ok (.ifCond .lt 15, 3) := by decide +kernel
theorem dX12_isChange_16 : decode cX12_isChange 16 = .ok (.iload_n 2, 1) := by decide +kernel
theorem dX12_isChange_17 : decode cX12_isChange 17 = .ok (.aload_n 0, 1) := by decide +kernel
theorem dX12_isChange_18 : decode cX12_isChange 18 = .ok (.getfield 719, 3) := by decide +kernel
theorem dX12_isChange_21 : decode cX12_isChange 21 = .ok (.if_icmp .ge 7, 3) := by decide +kernel
theorem dX12_isChange_24 : decode cX12_isChange 24 = .ok (.iconst 1, 1) := by decide +kernel
theorem dX12_isChange_25 : decode cX12_isChange 25 = .ok (.goto 4, 3) := by decide +kernel
theorem dX12_isChange_28 : decode cX12_isChange 28 = .ok (.iconst 0, 1) := by decide +kernel
theorem dX12_isChange_29 : decode cX12_isChange 29 = .ok (.ireturn, 1) := by decide +kernel
abbrev cs_t_X12_isChange_in (cB cI cJ cZ : ClassId) (h0 : Nat) (a : Nat → Nat) (f : Nat → Int32) (w : Int64) (t1 wd : Nat) (i c1 : Nat) : va_W := [(h0, .inr (13, moF a (upd (upd f 110 (nI t1)) 101 (nI wd)) w))]
abbrev pc_t_X12_isChange_in (dC : Nat → ClassId) (dI : Nat → Nat → Nat) (sz : Nat) (cB cI cJ cZ : ClassId) (h0 : Nat) (a : Nat → Nat) (f : Nat → Int32) (w : Int64) (t1 wd : Nat) (i c1 : Nat) : Array Value → State → Prop := va_Pc [.ref h0, .int (nI i), .int (nI c1)] (fun U => U.heap.size = sz ∧ va_P (dC, dI) vwCl [(h0, .inr (13, moF a (upd (upd f 110 (nI t1)) 101 (nI wd)) w))] U.heap ∧ va_K (dC, dI) vwCl [(cB, .byte), (cI, .int), (cJ, .long), (cZ, .boolean)] U ∧ va_D (fun _ => True) [(h0, .inr (13, moF a (upd (upd f 110 (nI t1)) 101 (nI wd)) w))])
abbrev qc_t_X12_isChange_in (dC : Nat → ClassId) (dI : Nat → Nat → Nat) (cB cI cJ cZ : ClassId) (h0 : Nat) (a : Nat → Nat) (f : Nat → Int32) (w : Int64) (t1 wd : Nat) (i c1 : Nat) (A : Nat → Prop) : Array Value → State → Outcome → State → Prop := va_Qi (fun (r : Int32) (u : Unit) => match u with | _ => r = 1) (fun (u : Unit) t_ => match u with | _ => va_P (dC, dI) vwCl [(h0, .inr (13, moF a (upd (upd f 110 (nI t1)) 101 (nI wd)) w))] t_.heap ∧ va_K (dC, dI) vwCl [(cB, .byte), (cI, .int), (cJ, .long), (cZ, .boolean)] t_ ∧ va_D A [(h0, .inr (13, moF a (upd (upd f 110 (nI t1)) 101 (nI wd)) w))]) A
set_option maxHeartbeats 4000000 in
set_option maxRecDepth 100000 in
theorem t_X12_isChange_in (l : Launch) (dC : Nat → ClassId) (dI : Nat → Nat → Nat) (sz : Nat) (cB cI cJ cZ : ClassId) (h0 : Nat) (a : Nat → Nat) (f : Nat → Int32) (w : Int64) (t1 wd : Nat) (i c1 : Nat) (ht1 : t1 ≤ 1300) (hwd : wd ≤ 8) (hi : i < t1) (hc : c1 < wd) : Met l yX12_isChange (wsOf yX12_isChange cX12_isChange 3 (some .boolean)) ({ frames := 0, cells := 0, slots := 0, locals := 0 }) (pc_t_X12_isChange_in dC dI sz cB cI cJ cZ h0 a f w t1 wd i c1) (qc_t_X12_isChange_in dC dI cB cI cJ cZ h0 a f w t1 wd i c1 (va_A (cs_t_X12_isChange_in cB cI cJ cZ h0 a f w t1 wd i c1) sz)) 0 0 (va_A (cs_t_X12_isChange_in cB cI cJ cZ h0 a f w t1 wd i c1) sz) := by
  refine Met.ofW (cc := cX12_isChange) (maxL := 3) (ret := (some .boolean)) (by decide) rfl ?_
  intro p e s m args below meth c s₁ B hml hv
  obtain ⟨rfl, hsz, hP, hK, hD0⟩ := hv
  have hx := B.exec
  have hb := B.bytes
  have hr := B.returns
  have hts := atoms_spec (ws := (wsOf yX12_isChange cX12_isChange 3 (some .boolean))) B.pre
  have hown : s.vm.findClass RX12 = some m.cls := findClass_of_methodNamed B.named
  have hlocks := B.notSynchronized
  subst hsz
  have hD := hD0.self (sz := s.heap.size)
  generalize hAe : va_A (cs_t_X12_isChange_in cB cI cJ cZ h0 a f w t1 wd i c1) s.heap.size = A at hD ⊢
  have hA : ∀ q : Nat, s.heap.size ≤ q → A q := fun q h => by rw [← hAe]; exact Or.inr h
  have hS : va_S A s.heap s.heap [] := va_S.rf
  have hP : va_P (dC, dI) vwCl [(h0, .inr (13, moF a (upd (upd f 110 (nI t1)) 101 (nI wd)) w))] s.heap := hP
  have hl := lv_entry ([.ref h0, .int (nI i), .int (nI c1)]) (n := 3) (Nat.le_of_ble_eq_true rfl)
  rw [lg_entry_eq]
  generalize (lg_sl ([.ref h0, .int (nI i), .int (nI c1)]) ++ List.replicate (3 - (lg_sl ([.ref h0, .int (nI i), .int (nI c1)])).length) Slot.unset).toArray = ls at hl ⊢
  have hl : lv_has ls 3 [(0, .ref h0), (1, .int (nI i)), (2, .int (nI c1))] := hl
  refine lv_iload_n hx hb dX12_isChange_0 rfl (lv_at hl 1 rfl) ?_
  refine lv_if_lt (tgt := 28) hx hb dX12_isChange_1 (by decide) (fun c_1 => ?_) (fun c_1 => ?_)
  · skip
    have c_1 : i < 0 := (nI_ltI (a := i) (b := 0) (by omega) (by omega)).mp c_1
    exact absurd c_1 (by omega)
  · skip
    have c_1 : ¬ (i < 0) := fun h => c_1 ((nI_ltI (a := i) (b := 0) (by omega) (by omega)).mpr h)
    refine lv_iload_n hx hb dX12_isChange_4 rfl (lv_at hl 1 rfl) ?_
    refine lv_aload_n hx hb dX12_isChange_5 rfl (lv_at hl 0 rfl) ?_
    refine va_get (D := (dC, dI)) (ci := 13) (v := .int (nI t1)) (C := RX12) (T := TX12) (N := 115) hx hb hts (fun w h => List.mem_cons_of_mem _ (uG_X12 w h)) hown hK hP 0 rfl rfl 110 (by decide) (hts _ (List.mem_cons_of_mem _ kw_1801)) (fun _ h9 => h9) rfl dX12_isChange_6 ?_
    refine lv_icmp_ge (tgt := 28) hx hb dX12_isChange_9 (by decide) (fun c_2 => ?_) (fun c_2 => ?_)
    · skip
      have c_2 : t1 ≤ i := (nI_leI (a := t1) (b := i) (by omega) (by omega)).mp c_2
      exact absurd c_2 (by omega)
    · skip
      have c_2 : ¬ (t1 ≤ i) := fun h => c_2 ((nI_leI (a := t1) (b := i) (by omega) (by omega)).mpr h)
      refine lv_iload_n hx hb dX12_isChange_12 rfl (lv_at hl 2 rfl) ?_
      refine lv_if_lt (tgt := 28) hx hb dX12_isChange_13 (by decide) (fun c_3 => ?_) (fun c_3 => ?_)
      · skip
        have c_3 : c1 < 0 := (nI_ltI (a := c1) (b := 0) (by omega) (by omega)).mp c_3
        exact absurd c_3 (by omega)
      · skip
        have c_3 : ¬ (c1 < 0) := fun h => c_3 ((nI_ltI (a := c1) (b := 0) (by omega) (by omega)).mpr h)
        refine lv_iload_n hx hb dX12_isChange_16 rfl (lv_at hl 2 rfl) ?_
        refine lv_aload_n hx hb dX12_isChange_17 rfl (lv_at hl 0 rfl) ?_
        refine va_get (D := (dC, dI)) (ci := 13) (v := .int (nI wd)) (C := RX12) (T := TX12) (N := 115) hx hb hts (fun w h => List.mem_cons_of_mem _ (uG_X12 w h)) hown hK hP 0 rfl rfl 101 (by decide) (hts _ (List.mem_cons_of_mem _ kw_1792)) (fun _ h9 => h9) rfl dX12_isChange_18 ?_
        refine lv_icmp_ge (tgt := 28) hx hb dX12_isChange_21 (by decide) (fun c_4 => ?_) (fun c_4 => ?_)
        · skip
          have c_4 : wd ≤ c1 := (nI_leI (a := wd) (b := c1) (by omega) (by omega)).mp c_4
          exact absurd c_4 (by omega)
        · skip
          have c_4 : ¬ (wd ≤ c1) := fun h => c_4 ((nI_leI (a := wd) (b := c1) (by omega) (by omega)).mpr h)
          refine lv_iconst (v := 1) hx hb dX12_isChange_24 (by decide) ?_
          refine lv_goto (tgt := 29) hx hb dX12_isChange_25 (by decide) ?_
          have hP9 := hP.sub (ws' := [(h0, .inr (13, moF a (upd (upd f 110 (nI t1)) 101 (nI wd)) w))]) [0] rfl
          have hD9 := hD.sub (ws' := [(h0, .inr (13, moF a (upd (upd f 110 (nI t1)) 101 (nI wd)) w))]) [0] (by decide) rfl
          have hK9 := hK.sub (tys' := [(cB, .byte), (cI, .int), (cJ, .long), (cZ, .boolean)]) [0, 1, 2, 3] rfl
          exact W.zret (v := 1) hx hb hr (by rfl) (fun t_ ht hW => ⟨⟨1, (), rfl, rfl, by rw [ht]; exact hP9, va_K.moved hW.alike hK9, hD9⟩, hS.F ht⟩) hS.2.2 dX12_isChange_29
abbrev cs_t_X12_isChange_o (cB cI cJ cZ : ClassId) (h0 : Nat) (a : Nat → Nat) (f : Nat → Int32) (w : Int64) (t1 wd : Nat) (x y : Int32) : va_W := [(h0, .inr (13, moF a (upd (upd f 110 (nI t1)) 101 (nI wd)) w))]
abbrev pc_t_X12_isChange_o (dC : Nat → ClassId) (dI : Nat → Nat → Nat) (sz : Nat) (cB cI cJ cZ : ClassId) (h0 : Nat) (a : Nat → Nat) (f : Nat → Int32) (w : Int64) (t1 wd : Nat) (x y : Int32) : Array Value → State → Prop := va_Pc [.ref h0, .int x, .int y] (fun U => U.heap.size = sz ∧ va_P (dC, dI) vwCl [(h0, .inr (13, moF a (upd (upd f 110 (nI t1)) 101 (nI wd)) w))] U.heap ∧ va_K (dC, dI) vwCl [(cB, .byte), (cI, .int), (cJ, .long), (cZ, .boolean)] U ∧ va_D (fun _ => True) [(h0, .inr (13, moF a (upd (upd f 110 (nI t1)) 101 (nI wd)) w))])
abbrev qc_t_X12_isChange_o (dC : Nat → ClassId) (dI : Nat → Nat → Nat) (cB cI cJ cZ : ClassId) (h0 : Nat) (a : Nat → Nat) (f : Nat → Int32) (w : Int64) (t1 wd : Nat) (x y : Int32) (A : Nat → Prop) : Array Value → State → Outcome → State → Prop := va_Qi (fun (r : Int32) (u : Unit) => match u with | _ => r = 0) (fun (u : Unit) t_ => match u with | _ => va_P (dC, dI) vwCl [(h0, .inr (13, moF a (upd (upd f 110 (nI t1)) 101 (nI wd)) w))] t_.heap ∧ va_K (dC, dI) vwCl [(cB, .byte), (cI, .int), (cJ, .long), (cZ, .boolean)] t_ ∧ va_D A [(h0, .inr (13, moF a (upd (upd f 110 (nI t1)) 101 (nI wd)) w))]) A
set_option maxHeartbeats 4000000 in
set_option maxRecDepth 100000 in
theorem t_X12_isChange_o (l : Launch) (dC : Nat → ClassId) (dI : Nat → Nat → Nat) (sz : Nat) (cB cI cJ cZ : ClassId) (h0 : Nat) (a : Nat → Nat) (f : Nat → Int32) (w : Int64) (t1 wd : Nat) (x y : Int32) (ht1 : t1 ≤ 1300) (hwd : wd ≤ 8) (ho : x < 0 ∨ nI t1 ≤ x ∨ y < 0 ∨ nI wd ≤ y) : Met l yX12_isChange (wsOf yX12_isChange cX12_isChange 3 (some .boolean)) ({ frames := 0, cells := 0, slots := 0, locals := 0 }) (pc_t_X12_isChange_o dC dI sz cB cI cJ cZ h0 a f w t1 wd x y) (qc_t_X12_isChange_o dC dI cB cI cJ cZ h0 a f w t1 wd x y (va_A (cs_t_X12_isChange_o cB cI cJ cZ h0 a f w t1 wd x y) sz)) 0 0 (va_A (cs_t_X12_isChange_o cB cI cJ cZ h0 a f w t1 wd x y) sz) := by
  refine Met.ofW (cc := cX12_isChange) (maxL := 3) (ret := (some .boolean)) (by decide) rfl ?_
  intro p e s m args below meth c s₁ B hml hv
  obtain ⟨rfl, hsz, hP, hK, hD0⟩ := hv
  have hx := B.exec
  have hb := B.bytes
  have hr := B.returns
  have hts := atoms_spec (ws := (wsOf yX12_isChange cX12_isChange 3 (some .boolean))) B.pre
  have hown : s.vm.findClass RX12 = some m.cls := findClass_of_methodNamed B.named
  have hlocks := B.notSynchronized
  subst hsz
  have hD := hD0.self (sz := s.heap.size)
  generalize hAe : va_A (cs_t_X12_isChange_o cB cI cJ cZ h0 a f w t1 wd x y) s.heap.size = A at hD ⊢
  have hA : ∀ q : Nat, s.heap.size ≤ q → A q := fun q h => by rw [← hAe]; exact Or.inr h
  have hS : va_S A s.heap s.heap [] := va_S.rf
  have hP : va_P (dC, dI) vwCl [(h0, .inr (13, moF a (upd (upd f 110 (nI t1)) 101 (nI wd)) w))] s.heap := hP
  have hl := lv_entry ([.ref h0, .int x, .int y]) (n := 3) (Nat.le_of_ble_eq_true rfl)
  rw [lg_entry_eq]
  generalize (lg_sl ([.ref h0, .int x, .int y]) ++ List.replicate (3 - (lg_sl ([.ref h0, .int x, .int y])).length) Slot.unset).toArray = ls at hl ⊢
  have hl : lv_has ls 3 [(0, .ref h0), (1, .int x), (2, .int y)] := hl
  refine lv_iload_n hx hb dX12_isChange_0 rfl (lv_at hl 1 rfl) ?_
  refine lv_if_lt (tgt := 28) hx hb dX12_isChange_1 (by decide) (fun c_1 => ?_) (fun c_1 => ?_)
  · skip
    refine lv_iconst (v := 0) hx hb dX12_isChange_28 (by decide) ?_
    have hP9 := hP.sub (ws' := [(h0, .inr (13, moF a (upd (upd f 110 (nI t1)) 101 (nI wd)) w))]) [0] rfl
    have hD9 := hD.sub (ws' := [(h0, .inr (13, moF a (upd (upd f 110 (nI t1)) 101 (nI wd)) w))]) [0] (by decide) rfl
    have hK9 := hK.sub (tys' := [(cB, .byte), (cI, .int), (cJ, .long), (cZ, .boolean)]) [0, 1, 2, 3] rfl
    exact W.zret (v := 0) hx hb hr (by rfl) (fun t_ ht hW => ⟨⟨0, (), rfl, rfl, by rw [ht]; exact hP9, va_K.moved hW.alike hK9, hD9⟩, hS.F ht⟩) hS.2.2 dX12_isChange_29
  · skip
    refine lv_iload_n hx hb dX12_isChange_4 rfl (lv_at hl 1 rfl) ?_
    refine lv_aload_n hx hb dX12_isChange_5 rfl (lv_at hl 0 rfl) ?_
    refine va_get (D := (dC, dI)) (ci := 13) (v := .int (nI t1)) (C := RX12) (T := TX12) (N := 115) hx hb hts (fun w h => List.mem_cons_of_mem _ (uG_X12 w h)) hown hK hP 0 rfl rfl 110 (by decide) (hts _ (List.mem_cons_of_mem _ kw_1801)) (fun _ h9 => h9) rfl dX12_isChange_6 ?_
    refine lv_icmp_ge (tgt := 28) hx hb dX12_isChange_9 (by decide) (fun c_2 => ?_) (fun c_2 => ?_)
    · skip
      refine lv_iconst (v := 0) hx hb dX12_isChange_28 (by decide) ?_
      have hP9 := hP.sub (ws' := [(h0, .inr (13, moF a (upd (upd f 110 (nI t1)) 101 (nI wd)) w))]) [0] rfl
      have hD9 := hD.sub (ws' := [(h0, .inr (13, moF a (upd (upd f 110 (nI t1)) 101 (nI wd)) w))]) [0] (by decide) rfl
      have hK9 := hK.sub (tys' := [(cB, .byte), (cI, .int), (cJ, .long), (cZ, .boolean)]) [0, 1, 2, 3] rfl
      exact W.zret (v := 0) hx hb hr (by rfl) (fun t_ ht hW => ⟨⟨0, (), rfl, rfl, by rw [ht]; exact hP9, va_K.moved hW.alike hK9, hD9⟩, hS.F ht⟩) hS.2.2 dX12_isChange_29
    · skip
      refine lv_iload_n hx hb dX12_isChange_12 rfl (lv_at hl 2 rfl) ?_
      refine lv_if_lt (tgt := 28) hx hb dX12_isChange_13 (by decide) (fun c_3 => ?_) (fun c_3 => ?_)
      · skip
        refine lv_iconst (v := 0) hx hb dX12_isChange_28 (by decide) ?_
        have hP9 := hP.sub (ws' := [(h0, .inr (13, moF a (upd (upd f 110 (nI t1)) 101 (nI wd)) w))]) [0] rfl
        have hD9 := hD.sub (ws' := [(h0, .inr (13, moF a (upd (upd f 110 (nI t1)) 101 (nI wd)) w))]) [0] (by decide) rfl
        have hK9 := hK.sub (tys' := [(cB, .byte), (cI, .int), (cJ, .long), (cZ, .boolean)]) [0, 1, 2, 3] rfl
        exact W.zret (v := 0) hx hb hr (by rfl) (fun t_ ht hW => ⟨⟨0, (), rfl, rfl, by rw [ht]; exact hP9, va_K.moved hW.alike hK9, hD9⟩, hS.F ht⟩) hS.2.2 dX12_isChange_29
      · skip
        refine lv_iload_n hx hb dX12_isChange_16 rfl (lv_at hl 2 rfl) ?_
        refine lv_aload_n hx hb dX12_isChange_17 rfl (lv_at hl 0 rfl) ?_
        refine va_get (D := (dC, dI)) (ci := 13) (v := .int (nI wd)) (C := RX12) (T := TX12) (N := 115) hx hb hts (fun w h => List.mem_cons_of_mem _ (uG_X12 w h)) hown hK hP 0 rfl rfl 101 (by decide) (hts _ (List.mem_cons_of_mem _ kw_1792)) (fun _ h9 => h9) rfl dX12_isChange_18 ?_
        refine lv_icmp_ge (tgt := 28) hx hb dX12_isChange_21 (by decide) (fun c_4 => ?_) (fun c_4 => ?_)
        · skip
          refine lv_iconst (v := 0) hx hb dX12_isChange_28 (by decide) ?_
          have hP9 := hP.sub (ws' := [(h0, .inr (13, moF a (upd (upd f 110 (nI t1)) 101 (nI wd)) w))]) [0] rfl
          have hD9 := hD.sub (ws' := [(h0, .inr (13, moF a (upd (upd f 110 (nI t1)) 101 (nI wd)) w))]) [0] (by decide) rfl
          have hK9 := hK.sub (tys' := [(cB, .byte), (cI, .int), (cJ, .long), (cZ, .boolean)]) [0, 1, 2, 3] rfl
          exact W.zret (v := 0) hx hb hr (by rfl) (fun t_ ht hW => ⟨⟨0, (), rfl, rfl, by rw [ht]; exact hP9, va_K.moved hW.alike hK9, hD9⟩, hS.F ht⟩) hS.2.2 dX12_isChange_29
        · skip
          exact absurd ho (fun h => h.elim c_1 (fun h => h.elim c_2 (fun h => h.elim c_3 c_4)))
theorem dX12_isAnswer_0 : decode cX12_isAnswer 0 = .ok (.aload_n 0, 1) := by decide +kernel
theorem dX12_isAnswer_1 : decode cX12_isAnswer 1 = .ok (.getfield 584, 3) := by decide +kernel
theorem dX12_isAnswer_4 : decode cX12_isAnswer 4 = .ok (.ifCond .eq 31, 3) := by decide +kernel
theorem dX12_isAnswer_7 : decode cX12_isAnswer 7 = .ok (.iload_n 1, 1) := by decide +kernel
theorem dX12_isAnswer_8 : decode cX12_isAnswer 8 = .ok (.ifCond .lt 27, 3) := by decide +kernel
theorem dX12_isAnswer_11 : decode cX12_isAnswer 11 = .ok (.iload_n 1, 1) := by decide +kernel
theorem dX12_isAnswer_12 : decode cX12_isAnswer 12 = .ok (.aload_n 0, 1) := by decide +kernel
theorem dX12_isAnswer_13 : decode cX12_isAnswer 13 = .ok (.getfield 724, 3) := by decide +kernel
theorem dX12_isAnswer_16 : decode cX12_isAnswer 16 = .ok (.if_icmp .ge 19, 3) := by decide +kernel
theorem dX12_isAnswer_19 : decode cX12_isAnswer 19 = .ok (.iload_n 2, 1) := by decide +kernel
theorem dX12_isAnswer_20 : decode cX12_isAnswer 20 = .ok (.ifCond .lt 15, 3) := by decide +kernel
theorem dX12_isAnswer_23 : decode cX12_isAnswer 23 = .ok (.iload_n 2, 1) := by decide +kernel
theorem dX12_isAnswer_24 : decode cX12_isAnswer 24 = .ok (.aload_n 0, 1) := by decide +kernel
theorem dX12_isAnswer_25 : decode cX12_isAnswer 25 = .ok (.getfield 719, 3) := by decide +kernel
theorem dX12_isAnswer_28 : decode cX12_isAnswer 28 = .ok (.if_icmp .ge 7, 3) := by decide +kernel
theorem dX12_isAnswer_31 : decode cX12_isAnswer 31 = .ok (.iconst 1, 1) := by decide +kernel
theorem dX12_isAnswer_32 : decode cX12_isAnswer 32 = .ok (.goto 4, 3) := by decide +kernel
theorem dX12_isAnswer_35 : decode cX12_isAnswer 35 = .ok (.iconst 0, 1) := by decide +kernel
theorem dX12_isAnswer_36 : decode cX12_isAnswer 36 = .ok (.ireturn, 1) := by decide +kernel
abbrev cs_t_X12_isAnswer_0 (cB cI cJ cZ : ClassId) (h0 : Nat) (a : Nat → Nat) (f : Nat → Int32) (w : Int64) (t1 wd : Nat) (x y : Int32) : va_W := [(h0, .inr (13, moF a (upd (upd f 100 (nI t1)) 101 (nI wd)) w))]
abbrev pc_t_X12_isAnswer_0 (dC : Nat → ClassId) (dI : Nat → Nat → Nat) (sz : Nat) (cB cI cJ cZ : ClassId) (h0 : Nat) (a : Nat → Nat) (f : Nat → Int32) (w : Int64) (t1 wd : Nat) (x y : Int32) : Array Value → State → Prop := va_Pc [.ref h0, .int x, .int y] (fun U => U.heap.size = sz ∧ va_P (dC, dI) vwCl [(h0, .inr (13, moF a (upd (upd f 100 (nI t1)) 101 (nI wd)) w))] U.heap ∧ va_K (dC, dI) vwCl [(cB, .byte), (cI, .int), (cJ, .long), (cZ, .boolean)] U ∧ va_D (fun _ => True) [(h0, .inr (13, moF a (upd (upd f 100 (nI t1)) 101 (nI wd)) w))])
abbrev qc_t_X12_isAnswer_0 (dC : Nat → ClassId) (dI : Nat → Nat → Nat) (cB cI cJ cZ : ClassId) (h0 : Nat) (a : Nat → Nat) (f : Nat → Int32) (w : Int64) (t1 wd : Nat) (x y : Int32) (A : Nat → Prop) : Array Value → State → Outcome → State → Prop := va_Qi (fun (r : Int32) (u : Unit) => match u with | _ => r = 0) (fun (u : Unit) t_ => match u with | _ => va_P (dC, dI) vwCl [(h0, .inr (13, moF a (upd (upd f 100 (nI t1)) 101 (nI wd)) w))] t_.heap ∧ va_K (dC, dI) vwCl [(cB, .byte), (cI, .int), (cJ, .long), (cZ, .boolean)] t_ ∧ va_D A [(h0, .inr (13, moF a (upd (upd f 100 (nI t1)) 101 (nI wd)) w))]) A
set_option maxHeartbeats 4000000 in
set_option maxRecDepth 100000 in
theorem t_X12_isAnswer_0 (l : Launch) (dC : Nat → ClassId) (dI : Nat → Nat → Nat) (sz : Nat) (cB cI cJ cZ : ClassId) (h0 : Nat) (a : Nat → Nat) (f : Nat → Int32) (w : Int64) (t1 wd : Nat) (x y : Int32) (hh : f 81 = 0) : Met l yX12_isAnswer (wsOf yX12_isAnswer cX12_isAnswer 3 (some .boolean)) ({ frames := 0, cells := 0, slots := 0, locals := 0 }) (pc_t_X12_isAnswer_0 dC dI sz cB cI cJ cZ h0 a f w t1 wd x y) (qc_t_X12_isAnswer_0 dC dI cB cI cJ cZ h0 a f w t1 wd x y (va_A (cs_t_X12_isAnswer_0 cB cI cJ cZ h0 a f w t1 wd x y) sz)) 0 0 (va_A (cs_t_X12_isAnswer_0 cB cI cJ cZ h0 a f w t1 wd x y) sz) := by
  refine Met.ofW (cc := cX12_isAnswer) (maxL := 3) (ret := (some .boolean)) (by decide) rfl ?_
  intro p e s m args below meth c s₁ B hml hv
  obtain ⟨rfl, hsz, hP, hK, hD0⟩ := hv
  have hx := B.exec
  have hb := B.bytes
  have hr := B.returns
  have hts := atoms_spec (ws := (wsOf yX12_isAnswer cX12_isAnswer 3 (some .boolean))) B.pre
  have hown : s.vm.findClass RX12 = some m.cls := findClass_of_methodNamed B.named
  have hlocks := B.notSynchronized
  subst hsz
  have hD := hD0.self (sz := s.heap.size)
  generalize hAe : va_A (cs_t_X12_isAnswer_0 cB cI cJ cZ h0 a f w t1 wd x y) s.heap.size = A at hD ⊢
  have hA : ∀ q : Nat, s.heap.size ≤ q → A q := fun q h => by rw [← hAe]; exact Or.inr h
  have hS : va_S A s.heap s.heap [] := va_S.rf
  have hP : va_P (dC, dI) vwCl [(h0, .inr (13, moF a (upd (upd f 100 (nI t1)) 101 (nI wd)) w))] s.heap := hP
  have hl := lv_entry ([.ref h0, .int x, .int y]) (n := 3) (Nat.le_of_ble_eq_true rfl)
  rw [lg_entry_eq]
  generalize (lg_sl ([.ref h0, .int x, .int y]) ++ List.replicate (3 - (lg_sl ([.ref h0, .int x, .int y])).length) Slot.unset).toArray = ls at hl ⊢
  have hl : lv_has ls 3 [(0, .ref h0), (1, .int x), (2, .int y)] := hl
  refine lv_aload_n hx hb dX12_isAnswer_0 rfl (lv_at hl 0 rfl) ?_
  refine va_get (D := (dC, dI)) (ci := 13) (v := .int (f 81)) (C := RX12) (T := TX12) (N := 115) hx hb hts (fun w h => List.mem_cons_of_mem _ (uG_X12 w h)) hown hK hP 0 rfl rfl 81 (by decide) (hts _ (List.mem_cons_of_mem _ kw_1772)) (fun _ h9 => h9) rfl dX12_isAnswer_1 ?_
  refine lv_if_eq (tgt := 35) hx hb dX12_isAnswer_4 (by decide) (fun c_1 => ?_) (fun c_1 => ?_)
  · skip
    refine lv_iconst (v := 0) hx hb dX12_isAnswer_35 (by decide) ?_
    have hP9 := hP.sub (ws' := [(h0, .inr (13, moF a (upd (upd f 100 (nI t1)) 101 (nI wd)) w))]) [0] rfl
    have hD9 := hD.sub (ws' := [(h0, .inr (13, moF a (upd (upd f 100 (nI t1)) 101 (nI wd)) w))]) [0] (by decide) rfl
    have hK9 := hK.sub (tys' := [(cB, .byte), (cI, .int), (cJ, .long), (cZ, .boolean)]) [0, 1, 2, 3] rfl
    exact W.zret (v := 0) hx hb hr (by rfl) (fun t_ ht hW => ⟨⟨0, (), rfl, rfl, by rw [ht]; exact hP9, va_K.moved hW.alike hK9, hD9⟩, hS.F ht⟩) hS.2.2 dX12_isAnswer_36
  · skip
    exact absurd hh c_1
abbrev cs_t_X12_isAnswer_in (cB cI cJ cZ : ClassId) (h0 : Nat) (a : Nat → Nat) (f : Nat → Int32) (w : Int64) (t1 wd : Nat) (i c1 : Nat) : va_W := [(h0, .inr (13, moF a (upd (upd f 100 (nI t1)) 101 (nI wd)) w))]
abbrev pc_t_X12_isAnswer_in (dC : Nat → ClassId) (dI : Nat → Nat → Nat) (sz : Nat) (cB cI cJ cZ : ClassId) (h0 : Nat) (a : Nat → Nat) (f : Nat → Int32) (w : Int64) (t1 wd : Nat) (i c1 : Nat) : Array Value → State → Prop := va_Pc [.ref h0, .int (nI i), .int (nI c1)] (fun U => U.heap.size = sz ∧ va_P (dC, dI) vwCl [(h0, .inr (13, moF a (upd (upd f 100 (nI t1)) 101 (nI wd)) w))] U.heap ∧ va_K (dC, dI) vwCl [(cB, .byte), (cI, .int), (cJ, .long), (cZ, .boolean)] U ∧ va_D (fun _ => True) [(h0, .inr (13, moF a (upd (upd f 100 (nI t1)) 101 (nI wd)) w))])
abbrev qc_t_X12_isAnswer_in (dC : Nat → ClassId) (dI : Nat → Nat → Nat) (cB cI cJ cZ : ClassId) (h0 : Nat) (a : Nat → Nat) (f : Nat → Int32) (w : Int64) (t1 wd : Nat) (i c1 : Nat) (A : Nat → Prop) : Array Value → State → Outcome → State → Prop := va_Qi (fun (r : Int32) (u : Unit) => match u with | _ => r = 1) (fun (u : Unit) t_ => match u with | _ => va_P (dC, dI) vwCl [(h0, .inr (13, moF a (upd (upd f 100 (nI t1)) 101 (nI wd)) w))] t_.heap ∧ va_K (dC, dI) vwCl [(cB, .byte), (cI, .int), (cJ, .long), (cZ, .boolean)] t_ ∧ va_D A [(h0, .inr (13, moF a (upd (upd f 100 (nI t1)) 101 (nI wd)) w))]) A
set_option maxHeartbeats 4000000 in
set_option maxRecDepth 100000 in
theorem t_X12_isAnswer_in (l : Launch) (dC : Nat → ClassId) (dI : Nat → Nat → Nat) (sz : Nat) (cB cI cJ cZ : ClassId) (h0 : Nat) (a : Nat → Nat) (f : Nat → Int32) (w : Int64) (t1 wd : Nat) (i c1 : Nat) (ht1 : t1 ≤ 1300) (hwd : wd ≤ 8) (hh : ¬ f 81 = 0) (hi : i < t1) (hc : c1 < wd) : Met l yX12_isAnswer (wsOf yX12_isAnswer cX12_isAnswer 3 (some .boolean)) ({ frames := 0, cells := 0, slots := 0, locals := 0 }) (pc_t_X12_isAnswer_in dC dI sz cB cI cJ cZ h0 a f w t1 wd i c1) (qc_t_X12_isAnswer_in dC dI cB cI cJ cZ h0 a f w t1 wd i c1 (va_A (cs_t_X12_isAnswer_in cB cI cJ cZ h0 a f w t1 wd i c1) sz)) 0 0 (va_A (cs_t_X12_isAnswer_in cB cI cJ cZ h0 a f w t1 wd i c1) sz) := by
  refine Met.ofW (cc := cX12_isAnswer) (maxL := 3) (ret := (some .boolean)) (by decide) rfl ?_
  intro p e s m args below meth c s₁ B hml hv
  obtain ⟨rfl, hsz, hP, hK, hD0⟩ := hv
  have hx := B.exec
  have hb := B.bytes
  have hr := B.returns
  have hts := atoms_spec (ws := (wsOf yX12_isAnswer cX12_isAnswer 3 (some .boolean))) B.pre
  have hown : s.vm.findClass RX12 = some m.cls := findClass_of_methodNamed B.named
  have hlocks := B.notSynchronized
  subst hsz
  have hD := hD0.self (sz := s.heap.size)
  generalize hAe : va_A (cs_t_X12_isAnswer_in cB cI cJ cZ h0 a f w t1 wd i c1) s.heap.size = A at hD ⊢
  have hA : ∀ q : Nat, s.heap.size ≤ q → A q := fun q h => by rw [← hAe]; exact Or.inr h
  have hS : va_S A s.heap s.heap [] := va_S.rf
  have hP : va_P (dC, dI) vwCl [(h0, .inr (13, moF a (upd (upd f 100 (nI t1)) 101 (nI wd)) w))] s.heap := hP
  have hl := lv_entry ([.ref h0, .int (nI i), .int (nI c1)]) (n := 3) (Nat.le_of_ble_eq_true rfl)
  rw [lg_entry_eq]
  generalize (lg_sl ([.ref h0, .int (nI i), .int (nI c1)]) ++ List.replicate (3 - (lg_sl ([.ref h0, .int (nI i), .int (nI c1)])).length) Slot.unset).toArray = ls at hl ⊢
  have hl : lv_has ls 3 [(0, .ref h0), (1, .int (nI i)), (2, .int (nI c1))] := hl
  refine lv_aload_n hx hb dX12_isAnswer_0 rfl (lv_at hl 0 rfl) ?_
  refine va_get (D := (dC, dI)) (ci := 13) (v := .int (f 81)) (C := RX12) (T := TX12) (N := 115) hx hb hts (fun w h => List.mem_cons_of_mem _ (uG_X12 w h)) hown hK hP 0 rfl rfl 81 (by decide) (hts _ (List.mem_cons_of_mem _ kw_1772)) (fun _ h9 => h9) rfl dX12_isAnswer_1 ?_
  refine lv_if_eq (tgt := 35) hx hb dX12_isAnswer_4 (by decide) (fun c_1 => ?_) (fun c_1 => ?_)
  · skip
    exact absurd c_1 hh
  · skip
    refine lv_iload_n hx hb dX12_isAnswer_7 rfl (lv_at hl 1 rfl) ?_
    refine lv_if_lt (tgt := 35) hx hb dX12_isAnswer_8 (by decide) (fun c_2 => ?_) (fun c_2 => ?_)
    · skip
      have c_2 : i < 0 := (nI_ltI (a := i) (b := 0) (by omega) (by omega)).mp c_2
      exact absurd c_2 (by omega)
    · skip
      have c_2 : ¬ (i < 0) := fun h => c_2 ((nI_ltI (a := i) (b := 0) (by omega) (by omega)).mpr h)
      refine lv_iload_n hx hb dX12_isAnswer_11 rfl (lv_at hl 1 rfl) ?_
      refine lv_aload_n hx hb dX12_isAnswer_12 rfl (lv_at hl 0 rfl) ?_
      refine va_get (D := (dC, dI)) (ci := 13) (v := .int (nI t1)) (C := RX12) (T := TX12) (N := 115) hx hb hts (fun w h => List.mem_cons_of_mem _ (uG_X12 w h)) hown hK hP 0 rfl rfl 100 (by decide) (hts _ (List.mem_cons_of_mem _ kw_1791)) (fun _ h9 => h9) rfl dX12_isAnswer_13 ?_
      refine lv_icmp_ge (tgt := 35) hx hb dX12_isAnswer_16 (by decide) (fun c_3 => ?_) (fun c_3 => ?_)
      · skip
        have c_3 : t1 ≤ i := (nI_leI (a := t1) (b := i) (by omega) (by omega)).mp c_3
        exact absurd c_3 (by omega)
      · skip
        have c_3 : ¬ (t1 ≤ i) := fun h => c_3 ((nI_leI (a := t1) (b := i) (by omega) (by omega)).mpr h)
        refine lv_iload_n hx hb dX12_isAnswer_19 rfl (lv_at hl 2 rfl) ?_
        refine lv_if_lt (tgt := 35) hx hb dX12_isAnswer_20 (by decide) (fun c_4 => ?_) (fun c_4 => ?_)
        · skip
          have c_4 : c1 < 0 := (nI_ltI (a := c1) (b := 0) (by omega) (by omega)).mp c_4
          exact absurd c_4 (by omega)
        · skip
          have c_4 : ¬ (c1 < 0) := fun h => c_4 ((nI_ltI (a := c1) (b := 0) (by omega) (by omega)).mpr h)
          refine lv_iload_n hx hb dX12_isAnswer_23 rfl (lv_at hl 2 rfl) ?_
          refine lv_aload_n hx hb dX12_isAnswer_24 rfl (lv_at hl 0 rfl) ?_
          refine va_get (D := (dC, dI)) (ci := 13) (v := .int (nI wd)) (C := RX12) (T := TX12) (N := 115) hx hb hts (fun w h => List.mem_cons_of_mem _ (uG_X12 w h)) hown hK hP 0 rfl rfl 101 (by decide) (hts _ (List.mem_cons_of_mem _ kw_1792)) (fun _ h9 => h9) rfl dX12_isAnswer_25 ?_
          refine lv_icmp_ge (tgt := 35) hx hb dX12_isAnswer_28 (by decide) (fun c_5 => ?_) (fun c_5 => ?_)
          · skip
            have c_5 : wd ≤ c1 := (nI_leI (a := wd) (b := c1) (by omega) (by omega)).mp c_5
            exact absurd c_5 (by omega)
          · skip
            have c_5 : ¬ (wd ≤ c1) := fun h => c_5 ((nI_leI (a := wd) (b := c1) (by omega) (by omega)).mpr h)
            refine lv_iconst (v := 1) hx hb dX12_isAnswer_31 (by decide) ?_
            refine lv_goto (tgt := 36) hx hb dX12_isAnswer_32 (by decide) ?_
            have hP9 := hP.sub (ws' := [(h0, .inr (13, moF a (upd (upd f 100 (nI t1)) 101 (nI wd)) w))]) [0] rfl
            have hD9 := hD.sub (ws' := [(h0, .inr (13, moF a (upd (upd f 100 (nI t1)) 101 (nI wd)) w))]) [0] (by decide) rfl
            have hK9 := hK.sub (tys' := [(cB, .byte), (cI, .int), (cJ, .long), (cZ, .boolean)]) [0, 1, 2, 3] rfl
            exact W.zret (v := 1) hx hb hr (by rfl) (fun t_ ht hW => ⟨⟨1, (), rfl, rfl, by rw [ht]; exact hP9, va_K.moved hW.alike hK9, hD9⟩, hS.F ht⟩) hS.2.2 dX12_isAnswer_36
abbrev cs_t_X12_isAnswer_o (cB cI cJ cZ : ClassId) (h0 : Nat) (a : Nat → Nat) (f : Nat → Int32) (w : Int64) (t1 wd : Nat) (x y : Int32) : va_W := [(h0, .inr (13, moF a (upd (upd f 100 (nI t1)) 101 (nI wd)) w))]
abbrev pc_t_X12_isAnswer_o (dC : Nat → ClassId) (dI : Nat → Nat → Nat) (sz : Nat) (cB cI cJ cZ : ClassId) (h0 : Nat) (a : Nat → Nat) (f : Nat → Int32) (w : Int64) (t1 wd : Nat) (x y : Int32) : Array Value → State → Prop := va_Pc [.ref h0, .int x, .int y] (fun U => U.heap.size = sz ∧ va_P (dC, dI) vwCl [(h0, .inr (13, moF a (upd (upd f 100 (nI t1)) 101 (nI wd)) w))] U.heap ∧ va_K (dC, dI) vwCl [(cB, .byte), (cI, .int), (cJ, .long), (cZ, .boolean)] U ∧ va_D (fun _ => True) [(h0, .inr (13, moF a (upd (upd f 100 (nI t1)) 101 (nI wd)) w))])
abbrev qc_t_X12_isAnswer_o (dC : Nat → ClassId) (dI : Nat → Nat → Nat) (cB cI cJ cZ : ClassId) (h0 : Nat) (a : Nat → Nat) (f : Nat → Int32) (w : Int64) (t1 wd : Nat) (x y : Int32) (A : Nat → Prop) : Array Value → State → Outcome → State → Prop := va_Qi (fun (r : Int32) (u : Unit) => match u with | _ => r = 0) (fun (u : Unit) t_ => match u with | _ => va_P (dC, dI) vwCl [(h0, .inr (13, moF a (upd (upd f 100 (nI t1)) 101 (nI wd)) w))] t_.heap ∧ va_K (dC, dI) vwCl [(cB, .byte), (cI, .int), (cJ, .long), (cZ, .boolean)] t_ ∧ va_D A [(h0, .inr (13, moF a (upd (upd f 100 (nI t1)) 101 (nI wd)) w))]) A
set_option maxHeartbeats 4000000 in
set_option maxRecDepth 100000 in
theorem t_X12_isAnswer_o (l : Launch) (dC : Nat → ClassId) (dI : Nat → Nat → Nat) (sz : Nat) (cB cI cJ cZ : ClassId) (h0 : Nat) (a : Nat → Nat) (f : Nat → Int32) (w : Int64) (t1 wd : Nat) (x y : Int32) (ht1 : t1 ≤ 1300) (hwd : wd ≤ 8) (hh : ¬ f 81 = 0) (ho : x < 0 ∨ nI t1 ≤ x ∨ y < 0 ∨ nI wd ≤ y) : Met l yX12_isAnswer (wsOf yX12_isAnswer cX12_isAnswer 3 (some .boolean)) ({ frames := 0, cells := 0, slots := 0, locals := 0 }) (pc_t_X12_isAnswer_o dC dI sz cB cI cJ cZ h0 a f w t1 wd x y) (qc_t_X12_isAnswer_o dC dI cB cI cJ cZ h0 a f w t1 wd x y (va_A (cs_t_X12_isAnswer_o cB cI cJ cZ h0 a f w t1 wd x y) sz)) 0 0 (va_A (cs_t_X12_isAnswer_o cB cI cJ cZ h0 a f w t1 wd x y) sz) := by
  refine Met.ofW (cc := cX12_isAnswer) (maxL := 3) (ret := (some .boolean)) (by decide) rfl ?_
  intro p e s m args below meth c s₁ B hml hv
  obtain ⟨rfl, hsz, hP, hK, hD0⟩ := hv
  have hx := B.exec
  have hb := B.bytes
  have hr := B.returns
  have hts := atoms_spec (ws := (wsOf yX12_isAnswer cX12_isAnswer 3 (some .boolean))) B.pre
  have hown : s.vm.findClass RX12 = some m.cls := findClass_of_methodNamed B.named
  have hlocks := B.notSynchronized
  subst hsz
  have hD := hD0.self (sz := s.heap.size)
  generalize hAe : va_A (cs_t_X12_isAnswer_o cB cI cJ cZ h0 a f w t1 wd x y) s.heap.size = A at hD ⊢
  have hA : ∀ q : Nat, s.heap.size ≤ q → A q := fun q h => by rw [← hAe]; exact Or.inr h
  have hS : va_S A s.heap s.heap [] := va_S.rf
  have hP : va_P (dC, dI) vwCl [(h0, .inr (13, moF a (upd (upd f 100 (nI t1)) 101 (nI wd)) w))] s.heap := hP
  have hl := lv_entry ([.ref h0, .int x, .int y]) (n := 3) (Nat.le_of_ble_eq_true rfl)
  rw [lg_entry_eq]
  generalize (lg_sl ([.ref h0, .int x, .int y]) ++ List.replicate (3 - (lg_sl ([.ref h0, .int x, .int y])).length) Slot.unset).toArray = ls at hl ⊢
  have hl : lv_has ls 3 [(0, .ref h0), (1, .int x), (2, .int y)] := hl
  refine lv_aload_n hx hb dX12_isAnswer_0 rfl (lv_at hl 0 rfl) ?_
  refine va_get (D := (dC, dI)) (ci := 13) (v := .int (f 81)) (C := RX12) (T := TX12) (N := 115) hx hb hts (fun w h => List.mem_cons_of_mem _ (uG_X12 w h)) hown hK hP 0 rfl rfl 81 (by decide) (hts _ (List.mem_cons_of_mem _ kw_1772)) (fun _ h9 => h9) rfl dX12_isAnswer_1 ?_
  refine lv_if_eq (tgt := 35) hx hb dX12_isAnswer_4 (by decide) (fun c_1 => ?_) (fun c_1 => ?_)
  · skip
    exact absurd c_1 hh
  · skip
    refine lv_iload_n hx hb dX12_isAnswer_7 rfl (lv_at hl 1 rfl) ?_
    refine lv_if_lt (tgt := 35) hx hb dX12_isAnswer_8 (by decide) (fun c_2 => ?_) (fun c_2 => ?_)
    · skip
      refine lv_iconst (v := 0) hx hb dX12_isAnswer_35 (by decide) ?_
      have hP9 := hP.sub (ws' := [(h0, .inr (13, moF a (upd (upd f 100 (nI t1)) 101 (nI wd)) w))]) [0] rfl
      have hD9 := hD.sub (ws' := [(h0, .inr (13, moF a (upd (upd f 100 (nI t1)) 101 (nI wd)) w))]) [0] (by decide) rfl
      have hK9 := hK.sub (tys' := [(cB, .byte), (cI, .int), (cJ, .long), (cZ, .boolean)]) [0, 1, 2, 3] rfl
      exact W.zret (v := 0) hx hb hr (by rfl) (fun t_ ht hW => ⟨⟨0, (), rfl, rfl, by rw [ht]; exact hP9, va_K.moved hW.alike hK9, hD9⟩, hS.F ht⟩) hS.2.2 dX12_isAnswer_36
    · skip
      refine lv_iload_n hx hb dX12_isAnswer_11 rfl (lv_at hl 1 rfl) ?_
      refine lv_aload_n hx hb dX12_isAnswer_12 rfl (lv_at hl 0 rfl) ?_
      refine va_get (D := (dC, dI)) (ci := 13) (v := .int (nI t1)) (C := RX12) (T := TX12) (N := 115) hx hb hts (fun w h => List.mem_cons_of_mem _ (uG_X12 w h)) hown hK hP 0 rfl rfl 100 (by decide) (hts _ (List.mem_cons_of_mem _ kw_1791)) (fun _ h9 => h9) rfl dX12_isAnswer_13 ?_
      refine lv_icmp_ge (tgt := 35) hx hb dX12_isAnswer_16 (by decide) (fun c_3 => ?_) (fun c_3 => ?_)
      · skip
        refine lv_iconst (v := 0) hx hb dX12_isAnswer_35 (by decide) ?_
        have hP9 := hP.sub (ws' := [(h0, .inr (13, moF a (upd (upd f 100 (nI t1)) 101 (nI wd)) w))]) [0] rfl
        have hD9 := hD.sub (ws' := [(h0, .inr (13, moF a (upd (upd f 100 (nI t1)) 101 (nI wd)) w))]) [0] (by decide) rfl
        have hK9 := hK.sub (tys' := [(cB, .byte), (cI, .int), (cJ, .long), (cZ, .boolean)]) [0, 1, 2, 3] rfl
        exact W.zret (v := 0) hx hb hr (by rfl) (fun t_ ht hW => ⟨⟨0, (), rfl, rfl, by rw [ht]; exact hP9, va_K.moved hW.alike hK9, hD9⟩, hS.F ht⟩) hS.2.2 dX12_isAnswer_36
      · skip
        refine lv_iload_n hx hb dX12_isAnswer_19 rfl (lv_at hl 2 rfl) ?_
        refine lv_if_lt (tgt := 35) hx hb dX12_isAnswer_20 (by decide) (fun c_4 => ?_) (fun c_4 => ?_)
        · skip
          refine lv_iconst (v := 0) hx hb dX12_isAnswer_35 (by decide) ?_
          have hP9 := hP.sub (ws' := [(h0, .inr (13, moF a (upd (upd f 100 (nI t1)) 101 (nI wd)) w))]) [0] rfl
          have hD9 := hD.sub (ws' := [(h0, .inr (13, moF a (upd (upd f 100 (nI t1)) 101 (nI wd)) w))]) [0] (by decide) rfl
          have hK9 := hK.sub (tys' := [(cB, .byte), (cI, .int), (cJ, .long), (cZ, .boolean)]) [0, 1, 2, 3] rfl
          exact W.zret (v := 0) hx hb hr (by rfl) (fun t_ ht hW => ⟨⟨0, (), rfl, rfl, by rw [ht]; exact hP9, va_K.moved hW.alike hK9, hD9⟩, hS.F ht⟩) hS.2.2 dX12_isAnswer_36
        · skip
          refine lv_iload_n hx hb dX12_isAnswer_23 rfl (lv_at hl 2 rfl) ?_
          refine lv_aload_n hx hb dX12_isAnswer_24 rfl (lv_at hl 0 rfl) ?_
          refine va_get (D := (dC, dI)) (ci := 13) (v := .int (nI wd)) (C := RX12) (T := TX12) (N := 115) hx hb hts (fun w h => List.mem_cons_of_mem _ (uG_X12 w h)) hown hK hP 0 rfl rfl 101 (by decide) (hts _ (List.mem_cons_of_mem _ kw_1792)) (fun _ h9 => h9) rfl dX12_isAnswer_25 ?_
          refine lv_icmp_ge (tgt := 35) hx hb dX12_isAnswer_28 (by decide) (fun c_5 => ?_) (fun c_5 => ?_)
          · skip
            refine lv_iconst (v := 0) hx hb dX12_isAnswer_35 (by decide) ?_
            have hP9 := hP.sub (ws' := [(h0, .inr (13, moF a (upd (upd f 100 (nI t1)) 101 (nI wd)) w))]) [0] rfl
            have hD9 := hD.sub (ws' := [(h0, .inr (13, moF a (upd (upd f 100 (nI t1)) 101 (nI wd)) w))]) [0] (by decide) rfl
            have hK9 := hK.sub (tys' := [(cB, .byte), (cI, .int), (cJ, .long), (cZ, .boolean)]) [0, 1, 2, 3] rfl
            exact W.zret (v := 0) hx hb hr (by rfl) (fun t_ ht hW => ⟨⟨0, (), rfl, rfl, by rw [ht]; exact hP9, va_K.moved hW.alike hK9, hD9⟩, hS.F ht⟩) hS.2.2 dX12_isAnswer_36
          · skip
            exact absurd ho (fun h => h.elim c_2 (fun h => h.elim c_3 (fun h => h.elim c_4 c_5)))
theorem dX12_changed_0 : decode cX12_changed 0 = .ok (.aload_n 0, 1) := by decide +kernel
theorem dX12_changed_1 : decode cX12_changed 1 = .ok (.iload_n 1, 1) := by decide +kernel
theorem dX12_changed_2 : decode cX12_changed 2 = .ok (.iload_n 2, 1) := by decide +kernel
theorem dX12_changed_3 : decode cX12_changed 3 = .ok (.invokevirtual 737, 3) := by decide +kernel
theorem dX12_changed_6 : decode cX12_changed 6 = .ok (.ifCond .eq 19, 3) := by decide +kernel
theorem dX12_changed_9 : decode cX12_changed 9 = .ok (.aload_n 0, 1) := by decide +kernel
theorem dX12_changed_10 : decode cX12_changed 10 = .ok (.getfield 236, 3) := by decide +kernel
theorem dX12_changed_13 : decode cX12_changed 13 = .ok (.aload_n 0, 1) := by decide +kernel
theorem dX12_changed_14 : decode cX12_changed 14 = .ok (.getfield 719, 3) := by decide +kernel
theorem dX12_changed_17 : decode cX12_changed 17 = .ok (.iload_n 1, 1) := by decide +kernel
theorem dX12_changed_18 : decode cX12_changed 18 = .ok (.imul, 1) := by decide +kernel
theorem dX12_changed_19 : decode cX12_changed 19 = .ok (.iload_n 2, 1) := by decide +kernel
theorem dX12_changed_20 : decode cX12_changed 20 = .ok (.iadd, 1) := by decide +kernel
theorem dX12_changed_21 : decode cX12_changed 21 = .ok (.laload, 1) := by decide +kernel
theorem dX12_changed_22 : decode cX12_changed 22 = .ok (.goto 4, 3) := by decide +kernel
theorem dX12_changed_25 : decode cX12_changed 25 = .ok (.lconst 0, 1) := by decide +kernel
theorem dX12_changed_26 : decode cX12_changed 26 = .ok (.lreturn, 1) := by decide +kernel
abbrev cs_t_X12_changed_in (cB cI cJ cZ : ClassId) (h0 : Nat) (a : Nat → Nat) (f : Nat → Int32) (w : Int64) (t1 wd : Nat) (g : Nat → Int64) (i c1 : Nat) : va_W := [(h0, .inr (13, moF a (upd (upd f 110 (nI t1)) 101 (nI wd)) w)), (a 112, .inl (cJ, 10400, .inr (.inl g)))]
abbrev pc_t_X12_changed_in (dC : Nat → ClassId) (dI : Nat → Nat → Nat) (sz : Nat) (cB cI cJ cZ : ClassId) (h0 : Nat) (a : Nat → Nat) (f : Nat → Int32) (w : Int64) (t1 wd : Nat) (g : Nat → Int64) (i c1 : Nat) : Array Value → State → Prop := va_Pc [.ref h0, .int (nI i), .int (nI c1)] (fun U => U.heap.size = sz ∧ va_P (dC, dI) vwCl [(h0, .inr (13, moF a (upd (upd f 110 (nI t1)) 101 (nI wd)) w)), (a 112, .inl (cJ, 10400, .inr (.inl g)))] U.heap ∧ va_K (dC, dI) vwCl [(cB, .byte), (cI, .int), (cJ, .long), (cZ, .boolean)] U ∧ va_D (fun _ => True) [(h0, .inr (13, moF a (upd (upd f 110 (nI t1)) 101 (nI wd)) w)), (a 112, .inl (cJ, 10400, .inr (.inl g)))])
abbrev qc_t_X12_changed_in (dC : Nat → ClassId) (dI : Nat → Nat → Nat) (cB cI cJ cZ : ClassId) (h0 : Nat) (a : Nat → Nat) (f : Nat → Int32) (w : Int64) (t1 wd : Nat) (g : Nat → Int64) (i c1 : Nat) (A : Nat → Prop) : Array Value → State → Outcome → State → Prop := va_Ql (fun (r : Int64) (u : Unit) => match u with | _ => r = g (wd * i + c1)) (fun (u : Unit) t_ => match u with | _ => va_P (dC, dI) vwCl [(h0, .inr (13, moF a (upd (upd f 110 (nI t1)) 101 (nI wd)) w)), (a 112, .inl (cJ, 10400, .inr (.inl g)))] t_.heap ∧ va_K (dC, dI) vwCl [(cB, .byte), (cI, .int), (cJ, .long), (cZ, .boolean)] t_ ∧ va_D A [(h0, .inr (13, moF a (upd (upd f 110 (nI t1)) 101 (nI wd)) w)), (a 112, .inl (cJ, 10400, .inr (.inl g)))]) A
set_option maxHeartbeats 4000000 in
set_option maxRecDepth 100000 in
theorem t_X12_changed_in (l : Launch) (dC : Nat → ClassId) (dI : Nat → Nat → Nat) (sz : Nat) (cB cI cJ cZ : ClassId) (h0 : Nat) (a : Nat → Nat) (f : Nat → Int32) (w : Int64) (t1 wd : Nat) (g : Nat → Int64) (i c1 : Nat) (ht1 : t1 ≤ 1300) (hwd : wd ≤ 8) (hi : i < t1) (hc : c1 < wd) (hb9 : wd * i + c1 < 10400) : Met l yX12_changed (wsOf yX12_changed cX12_changed 3 (some .long)) ({ frames := 1, cells := 0, slots := 0, locals := 60 }) (pc_t_X12_changed_in dC dI sz cB cI cJ cZ h0 a f w t1 wd g i c1) (qc_t_X12_changed_in dC dI cB cI cJ cZ h0 a f w t1 wd g i c1 (va_A (cs_t_X12_changed_in cB cI cJ cZ h0 a f w t1 wd g i c1) sz)) 0 0 (va_A (cs_t_X12_changed_in cB cI cJ cZ h0 a f w t1 wd g i c1) sz) := by
  refine Met.ofW (cc := cX12_changed) (maxL := 3) (ret := (some .long)) (by decide) rfl ?_
  intro p e s m args below meth c s₁ B hml hv
  obtain ⟨rfl, hsz, hP, hK, hD0⟩ := hv
  have hx := B.exec
  have hb := B.bytes
  have hr := B.returns
  have hts := atoms_spec (ws := (wsOf yX12_changed cX12_changed 3 (some .long))) B.pre
  have hown : s.vm.findClass RX12 = some m.cls := findClass_of_methodNamed B.named
  have hlocks := B.notSynchronized
  subst hsz
  have hD := hD0.self (sz := s.heap.size)
  generalize hAe : va_A (cs_t_X12_changed_in cB cI cJ cZ h0 a f w t1 wd g i c1) s.heap.size = A at hD ⊢
  have hA : ∀ q : Nat, s.heap.size ≤ q → A q := fun q h => by rw [← hAe]; exact Or.inr h
  have hS : va_S A s.heap s.heap [] := va_S.rf
  have hP : va_P (dC, dI) vwCl [(h0, .inr (13, moF a (upd (upd f 110 (nI t1)) 101 (nI wd)) w)), (a 112, .inl (cJ, 10400, .inr (.inl g)))] s.heap := hP
  have hl := lv_entry ([.ref h0, .int (nI i), .int (nI c1)]) (n := 3) (Nat.le_of_ble_eq_true rfl)
  rw [lg_entry_eq]
  generalize (lg_sl ([.ref h0, .int (nI i), .int (nI c1)]) ++ List.replicate (3 - (lg_sl ([.ref h0, .int (nI i), .int (nI c1)])).length) Slot.unset).toArray = ls at hl ⊢
  have hl : lv_has ls 3 [(0, .ref h0), (1, .int (nI i)), (2, .int (nI c1))] := hl
  refine lv_aload_n hx hb dX12_changed_0 rfl (lv_at hl 0 rfl) ?_
  refine lv_iload_n hx hb dX12_changed_1 rfl (lv_at hl 1 rfl) ?_
  refine lv_iload_n hx hb dX12_changed_2 rfl (lv_at hl 2 rfl) ?_
  have hPc := hP.sub (ws' := [(h0, .inr (13, moF a (upd (upd f 110 (nI t1)) 101 (nI wd)) w))]) [0] rfl
  have hDc := hD.sub (ws' := [(h0, .inr (13, moF a (upd (upd f 110 (nI t1)) 101 (nI wd)) w))]) [0] (by decide) rfl
  have hKc := hK.sub (tys' := [(cB, .byte), (cI, .int), (cJ, .long), (cZ, .boolean)]) [0, 1, 2, 3] rfl
  have hFc := va_free (wc := [(h0, .inr (13, moF a (upd (upd f 110 (nI t1)) 101 (nI wd)) w))]) hD hS hA [0] rfl
  refine va_calli (va_runV (As := [.int (nI i), .int (nI c1)]) (rest := []) ⟨hx, hb, hml, hown, hts⟩ (t_X12_isChange_in l dC dI s.heap.size cB cI cJ cZ h0 a f w t1 wd i c1 ht1 hwd hi hc) (cwV 2 hts (gd_all (in_V kw_2472 kw_2474 kw_178 kw_191 kc_X12_isChange)) rfl rfl rfl (by decide +kernel) ⟨Nat.le_of_ble_eq_true rfl, Nat.le_of_ble_eq_true rfl⟩) ⟨fun a U g mk q => by obtain ⟨q0, q1, qP, qK, qD⟩ := q; exact ⟨q0, q1, qP, va_K.moved (u := U) (U := U.calling g mk a) (Vm.Alike.refl U.vm) qK, qD⟩, va_recv hKc hPc (ci := 13) (q0 := 0) rfl rfl, fun U hU hW => ⟨rfl, by rw [hU], by rw [hU]; exact hPc, va_K.moved hW.alike hKc, hDc.weaken (fun _ _ _ _ => trivial)⟩⟩ rfl rfl hl.1 rfl (lv_room (Nat.le_of_ble_eq_true rfl)) dX12_changed_3 ⟨Nat.le_of_ble_eq_true rfl, Nat.le_of_ble_eq_true rfl⟩) hS (fun q _ h => hFc q h) hFc (fun r_1 u t_ H1 locs ht hvm hw hB hz1 hk1 hS => ?_)
  obtain ⟨hP1, hK1, hD1⟩ := hB
  rw [ht] at hP1
  have hK1 := va_K.moved hvm.symm hK1
  obtain ⟨hP, hD⟩ := va_join (wr := [(a 112, .inl (cJ, 10400, .inr (.inl g)))]) (w1 := [(h0, .inr (13, moF a (upd (upd f 110 (nI t1)) 101 (nI wd)) w))]) hP hD [0] [1] rfl rfl (by decide) (by decide) hk1 hFc hP1 hD1
  have hK := (hK.sub (tys' := []) [] rfl).app hK1
  generalize H1 = H at hP hS ⊢
  have hP : va_P (dC, dI) vwCl [(a 112, .inl (cJ, 10400, .inr (.inl g))), (h0, .inr (13, moF a (upd (upd f 110 (nI t1)) 101 (nI wd)) w))] H := hP
  have hD : va_D A [(a 112, .inl (cJ, 10400, .inr (.inl g))), (h0, .inr (13, moF a (upd (upd f 110 (nI t1)) 101 (nI wd)) w))] := hD
  have hK : va_K (dC, dI) vwCl [(cB, .byte), (cI, .int), (cJ, .long), (cZ, .boolean)] s := hK
  have er_1 : r_1 = 1 := hw
  rw [er_1]
  refine lv_if_eq (tgt := 25) hx hb dX12_changed_6 (by decide) (fun c_2 => ?_) (fun c_2 => ?_)
  · skip
    exact absurd c_2 (by decide)
  · skip
    refine lv_aload_n hx hb dX12_changed_9 rfl (lv_at hl 0 rfl) ?_
    refine va_get (D := (dC, dI)) (ci := 13) (v := .ref (a 112)) (C := RX12) (T := TX12) (N := 115) hx hb hts (fun w h => List.mem_cons_of_mem _ (uG_X12 w h)) hown hK hP 1 rfl rfl 112 (by decide) (hts _ (List.mem_cons_of_mem _ kw_1803)) (fun _ h9 => h9) rfl dX12_changed_10 ?_
    refine lv_aload_n hx hb dX12_changed_13 rfl (lv_at hl 0 rfl) ?_
    refine va_get (D := (dC, dI)) (ci := 13) (v := .int (nI wd)) (C := RX12) (T := TX12) (N := 115) hx hb hts (fun w h => List.mem_cons_of_mem _ (uG_X12 w h)) hown hK hP 1 rfl rfl 101 (by decide) (hts _ (List.mem_cons_of_mem _ kw_1792)) (fun _ h9 => h9) rfl dX12_changed_14 ?_
    refine lv_iload_n hx hb dX12_changed_17 rfl (lv_at hl 1 rfl) ?_
    refine lv_imul hx hb dX12_changed_18 ?_
    refine lv_topi (fun x_3 ex_3 => ?_)
    have ex_3 : x_3 = nI (wd * i) := ex_3.trans (pk_mul wd i)
    subst ex_3
    refine lv_iload_n hx hb dX12_changed_19 rfl (lv_at hl 2 rfl) ?_
    refine lv_iadd hx hb dX12_changed_20 ?_
    refine lv_topi (fun x_4 ex_4 => ?_)
    have ex_4 : x_4 = nI (wd * i + c1) := ex_4.trans (nI_add (wd * i) c1)
    subst ex_4
    refine va_lald hx hb hK hP 0 2 rfl rfl (i := (nI (wd * i + c1))) (vp_in_nI (n := wd * i + c1) (N := 10400) (by omega) (by omega)) dX12_changed_21 ?_
    refine lv_topl (fun x_5 ex_5 => ?_)
    have ex_5 : x_5 = g (wd * i + c1) := ex_5.trans (congrArg g (nI_clamp (n := wd * i + c1) (by omega)))
    subst ex_5
    refine lv_goto (tgt := 26) hx hb dX12_changed_22 (by decide) ?_
    have hP9 := hP.sub (ws' := [(h0, .inr (13, moF a (upd (upd f 110 (nI t1)) 101 (nI wd)) w)), (a 112, .inl (cJ, 10400, .inr (.inl g)))]) [1, 0] rfl
    have hD9 := hD.sub (ws' := [(h0, .inr (13, moF a (upd (upd f 110 (nI t1)) 101 (nI wd)) w)), (a 112, .inl (cJ, 10400, .inr (.inl g)))]) [1, 0] (by decide) rfl
    have hK9 := hK.sub (tys' := [(cB, .byte), (cI, .int), (cJ, .long), (cZ, .boolean)]) [0, 1, 2, 3] rfl
    exact W.lret (v := (g (wd * i + c1))) hx hb hr (fun t_ ht hW => ⟨⟨(g (wd * i + c1)), (), rfl, rfl, by rw [ht]; exact hP9, va_K.moved hW.alike hK9, hD9⟩, hS.F ht⟩) hS.2.2 dX12_changed_26
abbrev cs_t_X12_changed_o (cB cI cJ cZ : ClassId) (h0 : Nat) (a : Nat → Nat) (f : Nat → Int32) (w : Int64) (t1 wd : Nat) (g : Nat → Int64) (x y : Int32) : va_W := [(h0, .inr (13, moF a (upd (upd f 110 (nI t1)) 101 (nI wd)) w)), (a 112, .inl (cJ, 10400, .inr (.inl g)))]
abbrev pc_t_X12_changed_o (dC : Nat → ClassId) (dI : Nat → Nat → Nat) (sz : Nat) (cB cI cJ cZ : ClassId) (h0 : Nat) (a : Nat → Nat) (f : Nat → Int32) (w : Int64) (t1 wd : Nat) (g : Nat → Int64) (x y : Int32) : Array Value → State → Prop := va_Pc [.ref h0, .int x, .int y] (fun U => U.heap.size = sz ∧ va_P (dC, dI) vwCl [(h0, .inr (13, moF a (upd (upd f 110 (nI t1)) 101 (nI wd)) w)), (a 112, .inl (cJ, 10400, .inr (.inl g)))] U.heap ∧ va_K (dC, dI) vwCl [(cB, .byte), (cI, .int), (cJ, .long), (cZ, .boolean)] U ∧ va_D (fun _ => True) [(h0, .inr (13, moF a (upd (upd f 110 (nI t1)) 101 (nI wd)) w)), (a 112, .inl (cJ, 10400, .inr (.inl g)))])
abbrev qc_t_X12_changed_o (dC : Nat → ClassId) (dI : Nat → Nat → Nat) (cB cI cJ cZ : ClassId) (h0 : Nat) (a : Nat → Nat) (f : Nat → Int32) (w : Int64) (t1 wd : Nat) (g : Nat → Int64) (x y : Int32) (A : Nat → Prop) : Array Value → State → Outcome → State → Prop := va_Ql (fun (r : Int64) (u : Unit) => match u with | _ => r = 0) (fun (u : Unit) t_ => match u with | _ => va_P (dC, dI) vwCl [(h0, .inr (13, moF a (upd (upd f 110 (nI t1)) 101 (nI wd)) w)), (a 112, .inl (cJ, 10400, .inr (.inl g)))] t_.heap ∧ va_K (dC, dI) vwCl [(cB, .byte), (cI, .int), (cJ, .long), (cZ, .boolean)] t_ ∧ va_D A [(h0, .inr (13, moF a (upd (upd f 110 (nI t1)) 101 (nI wd)) w)), (a 112, .inl (cJ, 10400, .inr (.inl g)))]) A
set_option maxHeartbeats 4000000 in
set_option maxRecDepth 100000 in
theorem t_X12_changed_o (l : Launch) (dC : Nat → ClassId) (dI : Nat → Nat → Nat) (sz : Nat) (cB cI cJ cZ : ClassId) (h0 : Nat) (a : Nat → Nat) (f : Nat → Int32) (w : Int64) (t1 wd : Nat) (g : Nat → Int64) (x y : Int32) (ht1 : t1 ≤ 1300) (hwd : wd ≤ 8) (ho : x < 0 ∨ nI t1 ≤ x ∨ y < 0 ∨ nI wd ≤ y) : Met l yX12_changed (wsOf yX12_changed cX12_changed 3 (some .long)) ({ frames := 1, cells := 0, slots := 0, locals := 60 }) (pc_t_X12_changed_o dC dI sz cB cI cJ cZ h0 a f w t1 wd g x y) (qc_t_X12_changed_o dC dI cB cI cJ cZ h0 a f w t1 wd g x y (va_A (cs_t_X12_changed_o cB cI cJ cZ h0 a f w t1 wd g x y) sz)) 0 0 (va_A (cs_t_X12_changed_o cB cI cJ cZ h0 a f w t1 wd g x y) sz) := by
  refine Met.ofW (cc := cX12_changed) (maxL := 3) (ret := (some .long)) (by decide) rfl ?_
  intro p e s m args below meth c s₁ B hml hv
  obtain ⟨rfl, hsz, hP, hK, hD0⟩ := hv
  have hx := B.exec
  have hb := B.bytes
  have hr := B.returns
  have hts := atoms_spec (ws := (wsOf yX12_changed cX12_changed 3 (some .long))) B.pre
  have hown : s.vm.findClass RX12 = some m.cls := findClass_of_methodNamed B.named
  have hlocks := B.notSynchronized
  subst hsz
  have hD := hD0.self (sz := s.heap.size)
  generalize hAe : va_A (cs_t_X12_changed_o cB cI cJ cZ h0 a f w t1 wd g x y) s.heap.size = A at hD ⊢
  have hA : ∀ q : Nat, s.heap.size ≤ q → A q := fun q h => by rw [← hAe]; exact Or.inr h
  have hS : va_S A s.heap s.heap [] := va_S.rf
  have hP : va_P (dC, dI) vwCl [(h0, .inr (13, moF a (upd (upd f 110 (nI t1)) 101 (nI wd)) w)), (a 112, .inl (cJ, 10400, .inr (.inl g)))] s.heap := hP
  have hl := lv_entry ([.ref h0, .int x, .int y]) (n := 3) (Nat.le_of_ble_eq_true rfl)
  rw [lg_entry_eq]
  generalize (lg_sl ([.ref h0, .int x, .int y]) ++ List.replicate (3 - (lg_sl ([.ref h0, .int x, .int y])).length) Slot.unset).toArray = ls at hl ⊢
  have hl : lv_has ls 3 [(0, .ref h0), (1, .int x), (2, .int y)] := hl
  refine lv_aload_n hx hb dX12_changed_0 rfl (lv_at hl 0 rfl) ?_
  refine lv_iload_n hx hb dX12_changed_1 rfl (lv_at hl 1 rfl) ?_
  refine lv_iload_n hx hb dX12_changed_2 rfl (lv_at hl 2 rfl) ?_
  have hPc := hP.sub (ws' := [(h0, .inr (13, moF a (upd (upd f 110 (nI t1)) 101 (nI wd)) w))]) [0] rfl
  have hDc := hD.sub (ws' := [(h0, .inr (13, moF a (upd (upd f 110 (nI t1)) 101 (nI wd)) w))]) [0] (by decide) rfl
  have hKc := hK.sub (tys' := [(cB, .byte), (cI, .int), (cJ, .long), (cZ, .boolean)]) [0, 1, 2, 3] rfl
  have hFc := va_free (wc := [(h0, .inr (13, moF a (upd (upd f 110 (nI t1)) 101 (nI wd)) w))]) hD hS hA [0] rfl
  refine va_calli (va_runV (As := [.int x, .int y]) (rest := []) ⟨hx, hb, hml, hown, hts⟩ (t_X12_isChange_o l dC dI s.heap.size cB cI cJ cZ h0 a f w t1 wd x y ht1 hwd ho) (cwV 2 hts (gd_all (in_V kw_2472 kw_2474 kw_178 kw_191 kc_X12_isChange)) rfl rfl rfl (by decide +kernel) ⟨Nat.le_of_ble_eq_true rfl, Nat.le_of_ble_eq_true rfl⟩) ⟨fun a U g mk q => by obtain ⟨q0, q1, qP, qK, qD⟩ := q; exact ⟨q0, q1, qP, va_K.moved (u := U) (U := U.calling g mk a) (Vm.Alike.refl U.vm) qK, qD⟩, va_recv hKc hPc (ci := 13) (q0 := 0) rfl rfl, fun U hU hW => ⟨rfl, by rw [hU], by rw [hU]; exact hPc, va_K.moved hW.alike hKc, hDc.weaken (fun _ _ _ _ => trivial)⟩⟩ rfl rfl hl.1 rfl (lv_room (Nat.le_of_ble_eq_true rfl)) dX12_changed_3 ⟨Nat.le_of_ble_eq_true rfl, Nat.le_of_ble_eq_true rfl⟩) hS (fun q _ h => hFc q h) hFc (fun r_1 u t_ H1 locs ht hvm hw hB hz1 hk1 hS => ?_)
  obtain ⟨hP1, hK1, hD1⟩ := hB
  rw [ht] at hP1
  have hK1 := va_K.moved hvm.symm hK1
  obtain ⟨hP, hD⟩ := va_join (wr := [(a 112, .inl (cJ, 10400, .inr (.inl g)))]) (w1 := [(h0, .inr (13, moF a (upd (upd f 110 (nI t1)) 101 (nI wd)) w))]) hP hD [0] [1] rfl rfl (by decide) (by decide) hk1 hFc hP1 hD1
  have hK := (hK.sub (tys' := []) [] rfl).app hK1
  generalize H1 = H at hP hS ⊢
  have hP : va_P (dC, dI) vwCl [(a 112, .inl (cJ, 10400, .inr (.inl g))), (h0, .inr (13, moF a (upd (upd f 110 (nI t1)) 101 (nI wd)) w))] H := hP
  have hD : va_D A [(a 112, .inl (cJ, 10400, .inr (.inl g))), (h0, .inr (13, moF a (upd (upd f 110 (nI t1)) 101 (nI wd)) w))] := hD
  have hK : va_K (dC, dI) vwCl [(cB, .byte), (cI, .int), (cJ, .long), (cZ, .boolean)] s := hK
  have er_1 : r_1 = 0 := hw
  rw [er_1]
  refine lv_if_eq (tgt := 25) hx hb dX12_changed_6 (by decide) (fun c_2 => ?_) (fun c_2 => ?_)
  · skip
    refine lv_lconst (v := 0) hx hb dX12_changed_25 (by decide) ?_
    have hP9 := hP.sub (ws' := [(h0, .inr (13, moF a (upd (upd f 110 (nI t1)) 101 (nI wd)) w)), (a 112, .inl (cJ, 10400, .inr (.inl g)))]) [1, 0] rfl
    have hD9 := hD.sub (ws' := [(h0, .inr (13, moF a (upd (upd f 110 (nI t1)) 101 (nI wd)) w)), (a 112, .inl (cJ, 10400, .inr (.inl g)))]) [1, 0] (by decide) rfl
    have hK9 := hK.sub (tys' := [(cB, .byte), (cI, .int), (cJ, .long), (cZ, .boolean)]) [0, 1, 2, 3] rfl
    exact W.lret (v := 0) hx hb hr (fun t_ ht hW => ⟨⟨0, (), rfl, rfl, by rw [ht]; exact hP9, va_K.moved hW.alike hK9, hD9⟩, hS.F ht⟩) hS.2.2 dX12_changed_26
  · skip
    exact absurd c_2 (by decide)
theorem dX12_changedNull_0 : decode cX12_changedNull 0 = .ok (.aload_n 0, 1) := by decide +kernel
theorem dX12_changedNull_1 : decode cX12_changedNull 1 = .ok (.iload_n 1, 1) := by decide +kernel
theorem dX12_changedNull_2 : decode cX12_changedNull 2 = .ok (.iload_n 2, 1) := by decide +kernel
theorem dX12_changedNull_3 : decode cX12_changedNull 3 = .ok (.invokevirtual 737, 3) := by decide +kernel
theorem dX12_changedNull_6 : decode cX12_changedNull 6 = .ok (.ifCond .eq 23, 3) := by decide +kernel
theorem dX12_changedNull_9 : decode cX12_changedNull 9 = .ok (.aload_n 0, 1) := by decide +kernel
theorem dX12_changedNull_10 : decode cX12_changedNull 10 = .ok (.getfield 239, 3) := by decide +kernel
theorem dX12_changedNull_13 : decode cX12_changedNull 13 = .ok (.aload_n 0, 1) := by decide +kernel
theorem dX12_changedNull_14 : decode cX12_changedNull 14 = .ok (.getfield 719, 3) := by decide +kernel
theorem dX12_changedNull_17 : decode cX12_changedNull 17 = .ok (.iload_n 1, 1) := by decide +kernel
theorem dX12_changedNull_18 : decode cX12_changedNull 18 = .ok (.imul, 1) := by decide +kernel
theorem dX12_changedNull_19 : decode cX12_changedNull 19 = .ok (.iload_n 2, 1) := by decide +kernel
theorem dX12_changedNull_20 : decode cX12_changedNull 20 = .ok (.iadd, 1) := by decide +kernel
theorem dX12_changedNull_21 : decode cX12_changedNull 21 = .ok (.baload, 1) := by decide +kernel
theorem dX12_changedNull_22 : decode cX12_changedNull 22 = .ok (.ifCond .eq 7, 3) := by decide +kernel
theorem dX12_changedNull_25 : decode cX12_changedNull 25 = .ok (.iconst 1, 1) := by decide +kernel
theorem dX12_changedNull_26 : decode cX12_changedNull 26 = .ok (.goto 4, 3) := by decide +kernel
theorem dX12_changedNull_29 : decode cX12_changedNull 29 = .ok (.iconst 0, 1) := by decide +kernel
theorem dX12_changedNull_30 : decode cX12_changedNull 30 = .ok (.ireturn, 1) := by decide +kernel
abbrev cs_t_X12_changedNull_in (cB cI cJ cZ : ClassId) (h0 : Nat) (a : Nat → Nat) (f : Nat → Int32) (w : Int64) (t1 wd : Nat) (g : Nat → Int32) (i c1 : Nat) : va_W := [(h0, .inr (13, moF a (upd (upd f 110 (nI t1)) 101 (nI wd)) w)), (a 113, .inl (cZ, 10400, .inl g))]
abbrev pc_t_X12_changedNull_in (dC : Nat → ClassId) (dI : Nat → Nat → Nat) (sz : Nat) (cB cI cJ cZ : ClassId) (h0 : Nat) (a : Nat → Nat) (f : Nat → Int32) (w : Int64) (t1 wd : Nat) (g : Nat → Int32) (i c1 : Nat) : Array Value → State → Prop := va_Pc [.ref h0, .int (nI i), .int (nI c1)] (fun U => U.heap.size = sz ∧ va_P (dC, dI) vwCl [(h0, .inr (13, moF a (upd (upd f 110 (nI t1)) 101 (nI wd)) w)), (a 113, .inl (cZ, 10400, .inl g))] U.heap ∧ va_K (dC, dI) vwCl [(cB, .byte), (cI, .int), (cJ, .long), (cZ, .boolean)] U ∧ va_D (fun _ => True) [(h0, .inr (13, moF a (upd (upd f 110 (nI t1)) 101 (nI wd)) w)), (a 113, .inl (cZ, 10400, .inl g))])
abbrev qc_t_X12_changedNull_in (dC : Nat → ClassId) (dI : Nat → Nat → Nat) (cB cI cJ cZ : ClassId) (h0 : Nat) (a : Nat → Nat) (f : Nat → Int32) (w : Int64) (t1 wd : Nat) (g : Nat → Int32) (i c1 : Nat) (A : Nat → Prop) : Array Value → State → Outcome → State → Prop := va_Qi (fun (r : Int32) (u : Unit) => match u with | _ => r = hvI (g (wd * i + c1))) (fun (u : Unit) t_ => match u with | _ => va_P (dC, dI) vwCl [(h0, .inr (13, moF a (upd (upd f 110 (nI t1)) 101 (nI wd)) w)), (a 113, .inl (cZ, 10400, .inl g))] t_.heap ∧ va_K (dC, dI) vwCl [(cB, .byte), (cI, .int), (cJ, .long), (cZ, .boolean)] t_ ∧ va_D A [(h0, .inr (13, moF a (upd (upd f 110 (nI t1)) 101 (nI wd)) w)), (a 113, .inl (cZ, 10400, .inl g))]) A
set_option maxHeartbeats 4000000 in
set_option maxRecDepth 100000 in
theorem t_X12_changedNull_in (l : Launch) (dC : Nat → ClassId) (dI : Nat → Nat → Nat) (sz : Nat) (cB cI cJ cZ : ClassId) (h0 : Nat) (a : Nat → Nat) (f : Nat → Int32) (w : Int64) (t1 wd : Nat) (g : Nat → Int32) (i c1 : Nat) (ht1 : t1 ≤ 1300) (hwd : wd ≤ 8) (hi : i < t1) (hc : c1 < wd) (hb9 : wd * i + c1 < 10400) : Met l yX12_changedNull (wsOf yX12_changedNull cX12_changedNull 3 (some .boolean)) ({ frames := 1, cells := 0, slots := 0, locals := 60 }) (pc_t_X12_changedNull_in dC dI sz cB cI cJ cZ h0 a f w t1 wd g i c1) (qc_t_X12_changedNull_in dC dI cB cI cJ cZ h0 a f w t1 wd g i c1 (va_A (cs_t_X12_changedNull_in cB cI cJ cZ h0 a f w t1 wd g i c1) sz)) 0 0 (va_A (cs_t_X12_changedNull_in cB cI cJ cZ h0 a f w t1 wd g i c1) sz) := by
  refine Met.ofW (cc := cX12_changedNull) (maxL := 3) (ret := (some .boolean)) (by decide) rfl ?_
  intro p e s m args below meth c s₁ B hml hv
  obtain ⟨rfl, hsz, hP, hK, hD0⟩ := hv
  have hx := B.exec
  have hb := B.bytes
  have hr := B.returns
  have hts := atoms_spec (ws := (wsOf yX12_changedNull cX12_changedNull 3 (some .boolean))) B.pre
  have hown : s.vm.findClass RX12 = some m.cls := findClass_of_methodNamed B.named
  have hlocks := B.notSynchronized
  subst hsz
  have hD := hD0.self (sz := s.heap.size)
  generalize hAe : va_A (cs_t_X12_changedNull_in cB cI cJ cZ h0 a f w t1 wd g i c1) s.heap.size = A at hD ⊢
  have hA : ∀ q : Nat, s.heap.size ≤ q → A q := fun q h => by rw [← hAe]; exact Or.inr h
  have hS : va_S A s.heap s.heap [] := va_S.rf
  have hP : va_P (dC, dI) vwCl [(h0, .inr (13, moF a (upd (upd f 110 (nI t1)) 101 (nI wd)) w)), (a 113, .inl (cZ, 10400, .inl g))] s.heap := hP
  have hl := lv_entry ([.ref h0, .int (nI i), .int (nI c1)]) (n := 3) (Nat.le_of_ble_eq_true rfl)
  rw [lg_entry_eq]
  generalize (lg_sl ([.ref h0, .int (nI i), .int (nI c1)]) ++ List.replicate (3 - (lg_sl ([.ref h0, .int (nI i), .int (nI c1)])).length) Slot.unset).toArray = ls at hl ⊢
  have hl : lv_has ls 3 [(0, .ref h0), (1, .int (nI i)), (2, .int (nI c1))] := hl
  refine lv_aload_n hx hb dX12_changedNull_0 rfl (lv_at hl 0 rfl) ?_
  refine lv_iload_n hx hb dX12_changedNull_1 rfl (lv_at hl 1 rfl) ?_
  refine lv_iload_n hx hb dX12_changedNull_2 rfl (lv_at hl 2 rfl) ?_
  have hPc := hP.sub (ws' := [(h0, .inr (13, moF a (upd (upd f 110 (nI t1)) 101 (nI wd)) w))]) [0] rfl
  have hDc := hD.sub (ws' := [(h0, .inr (13, moF a (upd (upd f 110 (nI t1)) 101 (nI wd)) w))]) [0] (by decide) rfl
  have hKc := hK.sub (tys' := [(cB, .byte), (cI, .int), (cJ, .long), (cZ, .boolean)]) [0, 1, 2, 3] rfl
  have hFc := va_free (wc := [(h0, .inr (13, moF a (upd (upd f 110 (nI t1)) 101 (nI wd)) w))]) hD hS hA [0] rfl
  refine va_calli (va_runV (As := [.int (nI i), .int (nI c1)]) (rest := []) ⟨hx, hb, hml, hown, hts⟩ (t_X12_isChange_in l dC dI s.heap.size cB cI cJ cZ h0 a f w t1 wd i c1 ht1 hwd hi hc) (cwV 2 hts (gd_all (in_V kw_2472 kw_2474 kw_178 kw_191 kc_X12_isChange)) rfl rfl rfl (by decide +kernel) ⟨Nat.le_of_ble_eq_true rfl, Nat.le_of_ble_eq_true rfl⟩) ⟨fun a U g mk q => by obtain ⟨q0, q1, qP, qK, qD⟩ := q; exact ⟨q0, q1, qP, va_K.moved (u := U) (U := U.calling g mk a) (Vm.Alike.refl U.vm) qK, qD⟩, va_recv hKc hPc (ci := 13) (q0 := 0) rfl rfl, fun U hU hW => ⟨rfl, by rw [hU], by rw [hU]; exact hPc, va_K.moved hW.alike hKc, hDc.weaken (fun _ _ _ _ => trivial)⟩⟩ rfl rfl hl.1 rfl (lv_room (Nat.le_of_ble_eq_true rfl)) dX12_changedNull_3 ⟨Nat.le_of_ble_eq_true rfl, Nat.le_of_ble_eq_true rfl⟩) hS (fun q _ h => hFc q h) hFc (fun r_1 u t_ H1 locs ht hvm hw hB hz1 hk1 hS => ?_)
  obtain ⟨hP1, hK1, hD1⟩ := hB
  rw [ht] at hP1
  have hK1 := va_K.moved hvm.symm hK1
  obtain ⟨hP, hD⟩ := va_join (wr := [(a 113, .inl (cZ, 10400, .inl g))]) (w1 := [(h0, .inr (13, moF a (upd (upd f 110 (nI t1)) 101 (nI wd)) w))]) hP hD [0] [1] rfl rfl (by decide) (by decide) hk1 hFc hP1 hD1
  have hK := (hK.sub (tys' := []) [] rfl).app hK1
  generalize H1 = H at hP hS ⊢
  have hP : va_P (dC, dI) vwCl [(a 113, .inl (cZ, 10400, .inl g)), (h0, .inr (13, moF a (upd (upd f 110 (nI t1)) 101 (nI wd)) w))] H := hP
  have hD : va_D A [(a 113, .inl (cZ, 10400, .inl g)), (h0, .inr (13, moF a (upd (upd f 110 (nI t1)) 101 (nI wd)) w))] := hD
  have hK : va_K (dC, dI) vwCl [(cB, .byte), (cI, .int), (cJ, .long), (cZ, .boolean)] s := hK
  have er_1 : r_1 = 1 := hw
  rw [er_1]
  refine lv_if_eq (tgt := 29) hx hb dX12_changedNull_6 (by decide) (fun c_2 => ?_) (fun c_2 => ?_)
  · skip
    exact absurd c_2 (by decide)
  · skip
    refine lv_aload_n hx hb dX12_changedNull_9 rfl (lv_at hl 0 rfl) ?_
    refine va_get (D := (dC, dI)) (ci := 13) (v := .ref (a 113)) (C := RX12) (T := TX12) (N := 115) hx hb hts (fun w h => List.mem_cons_of_mem _ (uG_X12 w h)) hown hK hP 1 rfl rfl 113 (by decide) (hts _ (List.mem_cons_of_mem _ kw_1804)) (fun _ h9 => h9) rfl dX12_changedNull_10 ?_
    refine lv_aload_n hx hb dX12_changedNull_13 rfl (lv_at hl 0 rfl) ?_
    refine va_get (D := (dC, dI)) (ci := 13) (v := .int (nI wd)) (C := RX12) (T := TX12) (N := 115) hx hb hts (fun w h => List.mem_cons_of_mem _ (uG_X12 w h)) hown hK hP 1 rfl rfl 101 (by decide) (hts _ (List.mem_cons_of_mem _ kw_1792)) (fun _ h9 => h9) rfl dX12_changedNull_14 ?_
    refine lv_iload_n hx hb dX12_changedNull_17 rfl (lv_at hl 1 rfl) ?_
    refine lv_imul hx hb dX12_changedNull_18 ?_
    refine lv_topi (fun x_3 ex_3 => ?_)
    have ex_3 : x_3 = nI (wd * i) := ex_3.trans (pk_mul wd i)
    subst ex_3
    refine lv_iload_n hx hb dX12_changedNull_19 rfl (lv_at hl 2 rfl) ?_
    refine lv_iadd hx hb dX12_changedNull_20 ?_
    refine lv_topi (fun x_4 ex_4 => ?_)
    have ex_4 : x_4 = nI (wd * i + c1) := ex_4.trans (nI_add (wd * i) c1)
    subst ex_4
    refine va_zald hx hb hK hP 0 3 rfl rfl (i := (nI (wd * i + c1))) (vp_in_nI (n := wd * i + c1) (N := 10400) (by omega) (by omega)) dX12_changedNull_21 ?_
    refine lv_topi (fun x_5 ex_5 => ?_)
    have ex_5 : x_5 = g (wd * i + c1) := ex_5.trans (congrArg g (nI_clamp (n := wd * i + c1) (by omega)))
    subst ex_5
    refine lv_if_eq (tgt := 29) hx hb dX12_changedNull_22 (by decide) (fun c_6 => ?_) (fun c_6 => ?_)
    · skip
      refine lv_iconst (v := 0) hx hb dX12_changedNull_29 (by decide) ?_
      have hP9 := hP.sub (ws' := [(h0, .inr (13, moF a (upd (upd f 110 (nI t1)) 101 (nI wd)) w)), (a 113, .inl (cZ, 10400, .inl g))]) [1, 0] rfl
      have hD9 := hD.sub (ws' := [(h0, .inr (13, moF a (upd (upd f 110 (nI t1)) 101 (nI wd)) w)), (a 113, .inl (cZ, 10400, .inl g))]) [1, 0] (by decide) rfl
      have hK9 := hK.sub (tys' := [(cB, .byte), (cI, .int), (cJ, .long), (cZ, .boolean)]) [0, 1, 2, 3] rfl
      exact W.zret (v := 0) hx hb hr (by rfl) (fun t_ ht hW => ⟨⟨0, (), rfl, by unfold hvI; rw [if_pos c_6], by rw [ht]; exact hP9, va_K.moved hW.alike hK9, hD9⟩, hS.F ht⟩) hS.2.2 dX12_changedNull_30
    · skip
      refine lv_iconst (v := 1) hx hb dX12_changedNull_25 (by decide) ?_
      refine lv_goto (tgt := 30) hx hb dX12_changedNull_26 (by decide) ?_
      have hP9 := hP.sub (ws' := [(h0, .inr (13, moF a (upd (upd f 110 (nI t1)) 101 (nI wd)) w)), (a 113, .inl (cZ, 10400, .inl g))]) [1, 0] rfl
      have hD9 := hD.sub (ws' := [(h0, .inr (13, moF a (upd (upd f 110 (nI t1)) 101 (nI wd)) w)), (a 113, .inl (cZ, 10400, .inl g))]) [1, 0] (by decide) rfl
      have hK9 := hK.sub (tys' := [(cB, .byte), (cI, .int), (cJ, .long), (cZ, .boolean)]) [0, 1, 2, 3] rfl
      exact W.zret (v := 1) hx hb hr (by rfl) (fun t_ ht hW => ⟨⟨1, (), rfl, by unfold hvI; rw [if_neg c_6], by rw [ht]; exact hP9, va_K.moved hW.alike hK9, hD9⟩, hS.F ht⟩) hS.2.2 dX12_changedNull_30
abbrev cs_t_X12_changedNull_o (cB cI cJ cZ : ClassId) (h0 : Nat) (a : Nat → Nat) (f : Nat → Int32) (w : Int64) (t1 wd : Nat) (g : Nat → Int32) (x y : Int32) : va_W := [(h0, .inr (13, moF a (upd (upd f 110 (nI t1)) 101 (nI wd)) w)), (a 113, .inl (cZ, 10400, .inl g))]
abbrev pc_t_X12_changedNull_o (dC : Nat → ClassId) (dI : Nat → Nat → Nat) (sz : Nat) (cB cI cJ cZ : ClassId) (h0 : Nat) (a : Nat → Nat) (f : Nat → Int32) (w : Int64) (t1 wd : Nat) (g : Nat → Int32) (x y : Int32) : Array Value → State → Prop := va_Pc [.ref h0, .int x, .int y] (fun U => U.heap.size = sz ∧ va_P (dC, dI) vwCl [(h0, .inr (13, moF a (upd (upd f 110 (nI t1)) 101 (nI wd)) w)), (a 113, .inl (cZ, 10400, .inl g))] U.heap ∧ va_K (dC, dI) vwCl [(cB, .byte), (cI, .int), (cJ, .long), (cZ, .boolean)] U ∧ va_D (fun _ => True) [(h0, .inr (13, moF a (upd (upd f 110 (nI t1)) 101 (nI wd)) w)), (a 113, .inl (cZ, 10400, .inl g))])
abbrev qc_t_X12_changedNull_o (dC : Nat → ClassId) (dI : Nat → Nat → Nat) (cB cI cJ cZ : ClassId) (h0 : Nat) (a : Nat → Nat) (f : Nat → Int32) (w : Int64) (t1 wd : Nat) (g : Nat → Int32) (x y : Int32) (A : Nat → Prop) : Array Value → State → Outcome → State → Prop := va_Qi (fun (r : Int32) (u : Unit) => match u with | _ => r = 0) (fun (u : Unit) t_ => match u with | _ => va_P (dC, dI) vwCl [(h0, .inr (13, moF a (upd (upd f 110 (nI t1)) 101 (nI wd)) w)), (a 113, .inl (cZ, 10400, .inl g))] t_.heap ∧ va_K (dC, dI) vwCl [(cB, .byte), (cI, .int), (cJ, .long), (cZ, .boolean)] t_ ∧ va_D A [(h0, .inr (13, moF a (upd (upd f 110 (nI t1)) 101 (nI wd)) w)), (a 113, .inl (cZ, 10400, .inl g))]) A
set_option maxHeartbeats 4000000 in
set_option maxRecDepth 100000 in
theorem t_X12_changedNull_o (l : Launch) (dC : Nat → ClassId) (dI : Nat → Nat → Nat) (sz : Nat) (cB cI cJ cZ : ClassId) (h0 : Nat) (a : Nat → Nat) (f : Nat → Int32) (w : Int64) (t1 wd : Nat) (g : Nat → Int32) (x y : Int32) (ht1 : t1 ≤ 1300) (hwd : wd ≤ 8) (ho : x < 0 ∨ nI t1 ≤ x ∨ y < 0 ∨ nI wd ≤ y) : Met l yX12_changedNull (wsOf yX12_changedNull cX12_changedNull 3 (some .boolean)) ({ frames := 1, cells := 0, slots := 0, locals := 60 }) (pc_t_X12_changedNull_o dC dI sz cB cI cJ cZ h0 a f w t1 wd g x y) (qc_t_X12_changedNull_o dC dI cB cI cJ cZ h0 a f w t1 wd g x y (va_A (cs_t_X12_changedNull_o cB cI cJ cZ h0 a f w t1 wd g x y) sz)) 0 0 (va_A (cs_t_X12_changedNull_o cB cI cJ cZ h0 a f w t1 wd g x y) sz) := by
  refine Met.ofW (cc := cX12_changedNull) (maxL := 3) (ret := (some .boolean)) (by decide) rfl ?_
  intro p e s m args below meth c s₁ B hml hv
  obtain ⟨rfl, hsz, hP, hK, hD0⟩ := hv
  have hx := B.exec
  have hb := B.bytes
  have hr := B.returns
  have hts := atoms_spec (ws := (wsOf yX12_changedNull cX12_changedNull 3 (some .boolean))) B.pre
  have hown : s.vm.findClass RX12 = some m.cls := findClass_of_methodNamed B.named
  have hlocks := B.notSynchronized
  subst hsz
  have hD := hD0.self (sz := s.heap.size)
  generalize hAe : va_A (cs_t_X12_changedNull_o cB cI cJ cZ h0 a f w t1 wd g x y) s.heap.size = A at hD ⊢
  have hA : ∀ q : Nat, s.heap.size ≤ q → A q := fun q h => by rw [← hAe]; exact Or.inr h
  have hS : va_S A s.heap s.heap [] := va_S.rf
  have hP : va_P (dC, dI) vwCl [(h0, .inr (13, moF a (upd (upd f 110 (nI t1)) 101 (nI wd)) w)), (a 113, .inl (cZ, 10400, .inl g))] s.heap := hP
  have hl := lv_entry ([.ref h0, .int x, .int y]) (n := 3) (Nat.le_of_ble_eq_true rfl)
  rw [lg_entry_eq]
  generalize (lg_sl ([.ref h0, .int x, .int y]) ++ List.replicate (3 - (lg_sl ([.ref h0, .int x, .int y])).length) Slot.unset).toArray = ls at hl ⊢
  have hl : lv_has ls 3 [(0, .ref h0), (1, .int x), (2, .int y)] := hl
  refine lv_aload_n hx hb dX12_changedNull_0 rfl (lv_at hl 0 rfl) ?_
  refine lv_iload_n hx hb dX12_changedNull_1 rfl (lv_at hl 1 rfl) ?_
  refine lv_iload_n hx hb dX12_changedNull_2 rfl (lv_at hl 2 rfl) ?_
  have hPc := hP.sub (ws' := [(h0, .inr (13, moF a (upd (upd f 110 (nI t1)) 101 (nI wd)) w))]) [0] rfl
  have hDc := hD.sub (ws' := [(h0, .inr (13, moF a (upd (upd f 110 (nI t1)) 101 (nI wd)) w))]) [0] (by decide) rfl
  have hKc := hK.sub (tys' := [(cB, .byte), (cI, .int), (cJ, .long), (cZ, .boolean)]) [0, 1, 2, 3] rfl
  have hFc := va_free (wc := [(h0, .inr (13, moF a (upd (upd f 110 (nI t1)) 101 (nI wd)) w))]) hD hS hA [0] rfl
  refine va_calli (va_runV (As := [.int x, .int y]) (rest := []) ⟨hx, hb, hml, hown, hts⟩ (t_X12_isChange_o l dC dI s.heap.size cB cI cJ cZ h0 a f w t1 wd x y ht1 hwd ho) (cwV 2 hts (gd_all (in_V kw_2472 kw_2474 kw_178 kw_191 kc_X12_isChange)) rfl rfl rfl (by decide +kernel) ⟨Nat.le_of_ble_eq_true rfl, Nat.le_of_ble_eq_true rfl⟩) ⟨fun a U g mk q => by obtain ⟨q0, q1, qP, qK, qD⟩ := q; exact ⟨q0, q1, qP, va_K.moved (u := U) (U := U.calling g mk a) (Vm.Alike.refl U.vm) qK, qD⟩, va_recv hKc hPc (ci := 13) (q0 := 0) rfl rfl, fun U hU hW => ⟨rfl, by rw [hU], by rw [hU]; exact hPc, va_K.moved hW.alike hKc, hDc.weaken (fun _ _ _ _ => trivial)⟩⟩ rfl rfl hl.1 rfl (lv_room (Nat.le_of_ble_eq_true rfl)) dX12_changedNull_3 ⟨Nat.le_of_ble_eq_true rfl, Nat.le_of_ble_eq_true rfl⟩) hS (fun q _ h => hFc q h) hFc (fun r_1 u t_ H1 locs ht hvm hw hB hz1 hk1 hS => ?_)
  obtain ⟨hP1, hK1, hD1⟩ := hB
  rw [ht] at hP1
  have hK1 := va_K.moved hvm.symm hK1
  obtain ⟨hP, hD⟩ := va_join (wr := [(a 113, .inl (cZ, 10400, .inl g))]) (w1 := [(h0, .inr (13, moF a (upd (upd f 110 (nI t1)) 101 (nI wd)) w))]) hP hD [0] [1] rfl rfl (by decide) (by decide) hk1 hFc hP1 hD1
  have hK := (hK.sub (tys' := []) [] rfl).app hK1
  generalize H1 = H at hP hS ⊢
  have hP : va_P (dC, dI) vwCl [(a 113, .inl (cZ, 10400, .inl g)), (h0, .inr (13, moF a (upd (upd f 110 (nI t1)) 101 (nI wd)) w))] H := hP
  have hD : va_D A [(a 113, .inl (cZ, 10400, .inl g)), (h0, .inr (13, moF a (upd (upd f 110 (nI t1)) 101 (nI wd)) w))] := hD
  have hK : va_K (dC, dI) vwCl [(cB, .byte), (cI, .int), (cJ, .long), (cZ, .boolean)] s := hK
  have er_1 : r_1 = 0 := hw
  rw [er_1]
  refine lv_if_eq (tgt := 29) hx hb dX12_changedNull_6 (by decide) (fun c_2 => ?_) (fun c_2 => ?_)
  · skip
    refine lv_iconst (v := 0) hx hb dX12_changedNull_29 (by decide) ?_
    have hP9 := hP.sub (ws' := [(h0, .inr (13, moF a (upd (upd f 110 (nI t1)) 101 (nI wd)) w)), (a 113, .inl (cZ, 10400, .inl g))]) [1, 0] rfl
    have hD9 := hD.sub (ws' := [(h0, .inr (13, moF a (upd (upd f 110 (nI t1)) 101 (nI wd)) w)), (a 113, .inl (cZ, 10400, .inl g))]) [1, 0] (by decide) rfl
    have hK9 := hK.sub (tys' := [(cB, .byte), (cI, .int), (cJ, .long), (cZ, .boolean)]) [0, 1, 2, 3] rfl
    exact W.zret (v := 0) hx hb hr (by rfl) (fun t_ ht hW => ⟨⟨0, (), rfl, rfl, by rw [ht]; exact hP9, va_K.moved hW.alike hK9, hD9⟩, hS.F ht⟩) hS.2.2 dX12_changedNull_30
  · skip
    exact absurd c_2 (by decide)
theorem dX12_at_0 : decode cX12_at 0 = .ok (.aload_n 0, 1) := by decide +kernel
theorem dX12_at_1 : decode cX12_at 1 = .ok (.iload_n 1, 1) := by decide +kernel
theorem dX12_at_2 : decode cX12_at 2 = .ok (.iload_n 2, 1) := by decide +kernel
theorem dX12_at_3 : decode cX12_at 3 = .ok (.invokevirtual 740, 3) := by decide +kernel
theorem dX12_at_6 : decode cX12_at 6 = .ok (.ifCond .eq 19, 3) := by decide +kernel
theorem dX12_at_9 : decode cX12_at 9 = .ok (.aload_n 0, 1) := by decide +kernel
theorem dX12_at_10 : decode cX12_at 10 = .ok (.getfield 215, 3) := by decide +kernel
theorem dX12_at_13 : decode cX12_at 13 = .ok (.aload_n 0, 1) := by decide +kernel
theorem dX12_at_14 : decode cX12_at 14 = .ok (.getfield 719, 3) := by decide +kernel
theorem dX12_at_17 : decode cX12_at 17 = .ok (.iload_n 1, 1) := by decide +kernel
theorem dX12_at_18 : decode cX12_at 18 = .ok (.imul, 1) := by decide +kernel
theorem dX12_at_19 : decode cX12_at 19 = .ok (.iload_n 2, 1) := by decide +kernel
theorem dX12_at_20 : decode cX12_at 20 = .ok (.iadd, 1) := by decide +kernel
theorem dX12_at_21 : decode cX12_at 21 = .ok (.laload, 1) := by decide +kernel
theorem dX12_at_22 : decode cX12_at 22 = .ok (.goto 4, 3) := by decide +kernel
theorem dX12_at_25 : decode cX12_at 25 = .ok (.lconst 0, 1) := by decide +kernel
theorem dX12_at_26 : decode cX12_at 26 = .ok (.lreturn, 1) := by decide +kernel
abbrev cs_t_X12_at_in (cB cI cJ cZ : ClassId) (h0 : Nat) (a : Nat → Nat) (f : Nat → Int32) (w : Int64) (t1 wd : Nat) (g : Nat → Int64) (i c1 : Nat) : va_W := [(h0, .inr (13, moF a (upd (upd f 100 (nI t1)) 101 (nI wd)) w)), (a 102, .inl (cJ, 4800, .inr (.inl g)))]
abbrev pc_t_X12_at_in (dC : Nat → ClassId) (dI : Nat → Nat → Nat) (sz : Nat) (cB cI cJ cZ : ClassId) (h0 : Nat) (a : Nat → Nat) (f : Nat → Int32) (w : Int64) (t1 wd : Nat) (g : Nat → Int64) (i c1 : Nat) : Array Value → State → Prop := va_Pc [.ref h0, .int (nI i), .int (nI c1)] (fun U => U.heap.size = sz ∧ va_P (dC, dI) vwCl [(h0, .inr (13, moF a (upd (upd f 100 (nI t1)) 101 (nI wd)) w)), (a 102, .inl (cJ, 4800, .inr (.inl g)))] U.heap ∧ va_K (dC, dI) vwCl [(cB, .byte), (cI, .int), (cJ, .long), (cZ, .boolean)] U ∧ va_D (fun _ => True) [(h0, .inr (13, moF a (upd (upd f 100 (nI t1)) 101 (nI wd)) w)), (a 102, .inl (cJ, 4800, .inr (.inl g)))])
abbrev qc_t_X12_at_in (dC : Nat → ClassId) (dI : Nat → Nat → Nat) (cB cI cJ cZ : ClassId) (h0 : Nat) (a : Nat → Nat) (f : Nat → Int32) (w : Int64) (t1 wd : Nat) (g : Nat → Int64) (i c1 : Nat) (A : Nat → Prop) : Array Value → State → Outcome → State → Prop := va_Ql (fun (r : Int64) (u : Unit) => match u with | _ => r = g (wd * i + c1)) (fun (u : Unit) t_ => match u with | _ => va_P (dC, dI) vwCl [(h0, .inr (13, moF a (upd (upd f 100 (nI t1)) 101 (nI wd)) w)), (a 102, .inl (cJ, 4800, .inr (.inl g)))] t_.heap ∧ va_K (dC, dI) vwCl [(cB, .byte), (cI, .int), (cJ, .long), (cZ, .boolean)] t_ ∧ va_D A [(h0, .inr (13, moF a (upd (upd f 100 (nI t1)) 101 (nI wd)) w)), (a 102, .inl (cJ, 4800, .inr (.inl g)))]) A
set_option maxHeartbeats 4000000 in
set_option maxRecDepth 100000 in
theorem t_X12_at_in (l : Launch) (dC : Nat → ClassId) (dI : Nat → Nat → Nat) (sz : Nat) (cB cI cJ cZ : ClassId) (h0 : Nat) (a : Nat → Nat) (f : Nat → Int32) (w : Int64) (t1 wd : Nat) (g : Nat → Int64) (i c1 : Nat) (ht1 : t1 ≤ 1300) (hwd : wd ≤ 8) (hh : ¬ f 81 = 0) (hi : i < t1) (hc : c1 < wd) (hb9 : wd * i + c1 < 4800) : Met l yX12_at (wsOf yX12_at cX12_at 3 (some .long)) ({ frames := 1, cells := 0, slots := 0, locals := 60 }) (pc_t_X12_at_in dC dI sz cB cI cJ cZ h0 a f w t1 wd g i c1) (qc_t_X12_at_in dC dI cB cI cJ cZ h0 a f w t1 wd g i c1 (va_A (cs_t_X12_at_in cB cI cJ cZ h0 a f w t1 wd g i c1) sz)) 0 0 (va_A (cs_t_X12_at_in cB cI cJ cZ h0 a f w t1 wd g i c1) sz) := by
  refine Met.ofW (cc := cX12_at) (maxL := 3) (ret := (some .long)) (by decide) rfl ?_
  intro p e s m args below meth c s₁ B hml hv
  obtain ⟨rfl, hsz, hP, hK, hD0⟩ := hv
  have hx := B.exec
  have hb := B.bytes
  have hr := B.returns
  have hts := atoms_spec (ws := (wsOf yX12_at cX12_at 3 (some .long))) B.pre
  have hown : s.vm.findClass RX12 = some m.cls := findClass_of_methodNamed B.named
  have hlocks := B.notSynchronized
  subst hsz
  have hD := hD0.self (sz := s.heap.size)
  generalize hAe : va_A (cs_t_X12_at_in cB cI cJ cZ h0 a f w t1 wd g i c1) s.heap.size = A at hD ⊢
  have hA : ∀ q : Nat, s.heap.size ≤ q → A q := fun q h => by rw [← hAe]; exact Or.inr h
  have hS : va_S A s.heap s.heap [] := va_S.rf
  have hP : va_P (dC, dI) vwCl [(h0, .inr (13, moF a (upd (upd f 100 (nI t1)) 101 (nI wd)) w)), (a 102, .inl (cJ, 4800, .inr (.inl g)))] s.heap := hP
  have hl := lv_entry ([.ref h0, .int (nI i), .int (nI c1)]) (n := 3) (Nat.le_of_ble_eq_true rfl)
  rw [lg_entry_eq]
  generalize (lg_sl ([.ref h0, .int (nI i), .int (nI c1)]) ++ List.replicate (3 - (lg_sl ([.ref h0, .int (nI i), .int (nI c1)])).length) Slot.unset).toArray = ls at hl ⊢
  have hl : lv_has ls 3 [(0, .ref h0), (1, .int (nI i)), (2, .int (nI c1))] := hl
  refine lv_aload_n hx hb dX12_at_0 rfl (lv_at hl 0 rfl) ?_
  refine lv_iload_n hx hb dX12_at_1 rfl (lv_at hl 1 rfl) ?_
  refine lv_iload_n hx hb dX12_at_2 rfl (lv_at hl 2 rfl) ?_
  have hPc := hP.sub (ws' := [(h0, .inr (13, moF a (upd (upd f 100 (nI t1)) 101 (nI wd)) w))]) [0] rfl
  have hDc := hD.sub (ws' := [(h0, .inr (13, moF a (upd (upd f 100 (nI t1)) 101 (nI wd)) w))]) [0] (by decide) rfl
  have hKc := hK.sub (tys' := [(cB, .byte), (cI, .int), (cJ, .long), (cZ, .boolean)]) [0, 1, 2, 3] rfl
  have hFc := va_free (wc := [(h0, .inr (13, moF a (upd (upd f 100 (nI t1)) 101 (nI wd)) w))]) hD hS hA [0] rfl
  refine va_calli (va_runV (As := [.int (nI i), .int (nI c1)]) (rest := []) ⟨hx, hb, hml, hown, hts⟩ (t_X12_isAnswer_in l dC dI s.heap.size cB cI cJ cZ h0 a f w t1 wd i c1 ht1 hwd hh hi hc) (cwV 2 hts (gd_all (in_V kw_2488 kw_2490 kw_179 kw_191 kc_X12_isAnswer)) rfl rfl rfl (by decide +kernel) ⟨Nat.le_of_ble_eq_true rfl, Nat.le_of_ble_eq_true rfl⟩) ⟨fun a U g mk q => by obtain ⟨q0, q1, qP, qK, qD⟩ := q; exact ⟨q0, q1, qP, va_K.moved (u := U) (U := U.calling g mk a) (Vm.Alike.refl U.vm) qK, qD⟩, va_recv hKc hPc (ci := 13) (q0 := 0) rfl rfl, fun U hU hW => ⟨rfl, by rw [hU], by rw [hU]; exact hPc, va_K.moved hW.alike hKc, hDc.weaken (fun _ _ _ _ => trivial)⟩⟩ rfl rfl hl.1 rfl (lv_room (Nat.le_of_ble_eq_true rfl)) dX12_at_3 ⟨Nat.le_of_ble_eq_true rfl, Nat.le_of_ble_eq_true rfl⟩) hS (fun q _ h => hFc q h) hFc (fun r_1 u t_ H1 locs ht hvm hw hB hz1 hk1 hS => ?_)
  obtain ⟨hP1, hK1, hD1⟩ := hB
  rw [ht] at hP1
  have hK1 := va_K.moved hvm.symm hK1
  obtain ⟨hP, hD⟩ := va_join (wr := [(a 102, .inl (cJ, 4800, .inr (.inl g)))]) (w1 := [(h0, .inr (13, moF a (upd (upd f 100 (nI t1)) 101 (nI wd)) w))]) hP hD [0] [1] rfl rfl (by decide) (by decide) hk1 hFc hP1 hD1
  have hK := (hK.sub (tys' := []) [] rfl).app hK1
  generalize H1 = H at hP hS ⊢
  have hP : va_P (dC, dI) vwCl [(a 102, .inl (cJ, 4800, .inr (.inl g))), (h0, .inr (13, moF a (upd (upd f 100 (nI t1)) 101 (nI wd)) w))] H := hP
  have hD : va_D A [(a 102, .inl (cJ, 4800, .inr (.inl g))), (h0, .inr (13, moF a (upd (upd f 100 (nI t1)) 101 (nI wd)) w))] := hD
  have hK : va_K (dC, dI) vwCl [(cB, .byte), (cI, .int), (cJ, .long), (cZ, .boolean)] s := hK
  have er_1 : r_1 = 1 := hw
  rw [er_1]
  refine lv_if_eq (tgt := 25) hx hb dX12_at_6 (by decide) (fun c_2 => ?_) (fun c_2 => ?_)
  · skip
    exact absurd c_2 (by decide)
  · skip
    refine lv_aload_n hx hb dX12_at_9 rfl (lv_at hl 0 rfl) ?_
    refine va_get (D := (dC, dI)) (ci := 13) (v := .ref (a 102)) (C := RX12) (T := TX12) (N := 115) hx hb hts (fun w h => List.mem_cons_of_mem _ (uG_X12 w h)) hown hK hP 1 rfl rfl 102 (by decide) (hts _ (List.mem_cons_of_mem _ kw_1793)) (fun _ h9 => h9) rfl dX12_at_10 ?_
    refine lv_aload_n hx hb dX12_at_13 rfl (lv_at hl 0 rfl) ?_
    refine va_get (D := (dC, dI)) (ci := 13) (v := .int (nI wd)) (C := RX12) (T := TX12) (N := 115) hx hb hts (fun w h => List.mem_cons_of_mem _ (uG_X12 w h)) hown hK hP 1 rfl rfl 101 (by decide) (hts _ (List.mem_cons_of_mem _ kw_1792)) (fun _ h9 => h9) rfl dX12_at_14 ?_
    refine lv_iload_n hx hb dX12_at_17 rfl (lv_at hl 1 rfl) ?_
    refine lv_imul hx hb dX12_at_18 ?_
    refine lv_topi (fun x_3 ex_3 => ?_)
    have ex_3 : x_3 = nI (wd * i) := ex_3.trans (pk_mul wd i)
    subst ex_3
    refine lv_iload_n hx hb dX12_at_19 rfl (lv_at hl 2 rfl) ?_
    refine lv_iadd hx hb dX12_at_20 ?_
    refine lv_topi (fun x_4 ex_4 => ?_)
    have ex_4 : x_4 = nI (wd * i + c1) := ex_4.trans (nI_add (wd * i) c1)
    subst ex_4
    refine va_lald hx hb hK hP 0 2 rfl rfl (i := (nI (wd * i + c1))) (vp_in_nI (n := wd * i + c1) (N := 4800) (by omega) (by omega)) dX12_at_21 ?_
    refine lv_topl (fun x_5 ex_5 => ?_)
    have ex_5 : x_5 = g (wd * i + c1) := ex_5.trans (congrArg g (nI_clamp (n := wd * i + c1) (by omega)))
    subst ex_5
    refine lv_goto (tgt := 26) hx hb dX12_at_22 (by decide) ?_
    have hP9 := hP.sub (ws' := [(h0, .inr (13, moF a (upd (upd f 100 (nI t1)) 101 (nI wd)) w)), (a 102, .inl (cJ, 4800, .inr (.inl g)))]) [1, 0] rfl
    have hD9 := hD.sub (ws' := [(h0, .inr (13, moF a (upd (upd f 100 (nI t1)) 101 (nI wd)) w)), (a 102, .inl (cJ, 4800, .inr (.inl g)))]) [1, 0] (by decide) rfl
    have hK9 := hK.sub (tys' := [(cB, .byte), (cI, .int), (cJ, .long), (cZ, .boolean)]) [0, 1, 2, 3] rfl
    exact W.lret (v := (g (wd * i + c1))) hx hb hr (fun t_ ht hW => ⟨⟨(g (wd * i + c1)), (), rfl, rfl, by rw [ht]; exact hP9, va_K.moved hW.alike hK9, hD9⟩, hS.F ht⟩) hS.2.2 dX12_at_26
abbrev cs_t_X12_at_o (cB cI cJ cZ : ClassId) (h0 : Nat) (a : Nat → Nat) (f : Nat → Int32) (w : Int64) (t1 wd : Nat) (g : Nat → Int64) (x y : Int32) : va_W := [(h0, .inr (13, moF a (upd (upd f 100 (nI t1)) 101 (nI wd)) w)), (a 102, .inl (cJ, 4800, .inr (.inl g)))]
abbrev pc_t_X12_at_o (dC : Nat → ClassId) (dI : Nat → Nat → Nat) (sz : Nat) (cB cI cJ cZ : ClassId) (h0 : Nat) (a : Nat → Nat) (f : Nat → Int32) (w : Int64) (t1 wd : Nat) (g : Nat → Int64) (x y : Int32) : Array Value → State → Prop := va_Pc [.ref h0, .int x, .int y] (fun U => U.heap.size = sz ∧ va_P (dC, dI) vwCl [(h0, .inr (13, moF a (upd (upd f 100 (nI t1)) 101 (nI wd)) w)), (a 102, .inl (cJ, 4800, .inr (.inl g)))] U.heap ∧ va_K (dC, dI) vwCl [(cB, .byte), (cI, .int), (cJ, .long), (cZ, .boolean)] U ∧ va_D (fun _ => True) [(h0, .inr (13, moF a (upd (upd f 100 (nI t1)) 101 (nI wd)) w)), (a 102, .inl (cJ, 4800, .inr (.inl g)))])
abbrev qc_t_X12_at_o (dC : Nat → ClassId) (dI : Nat → Nat → Nat) (cB cI cJ cZ : ClassId) (h0 : Nat) (a : Nat → Nat) (f : Nat → Int32) (w : Int64) (t1 wd : Nat) (g : Nat → Int64) (x y : Int32) (A : Nat → Prop) : Array Value → State → Outcome → State → Prop := va_Ql (fun (r : Int64) (u : Unit) => match u with | _ => r = 0) (fun (u : Unit) t_ => match u with | _ => va_P (dC, dI) vwCl [(h0, .inr (13, moF a (upd (upd f 100 (nI t1)) 101 (nI wd)) w)), (a 102, .inl (cJ, 4800, .inr (.inl g)))] t_.heap ∧ va_K (dC, dI) vwCl [(cB, .byte), (cI, .int), (cJ, .long), (cZ, .boolean)] t_ ∧ va_D A [(h0, .inr (13, moF a (upd (upd f 100 (nI t1)) 101 (nI wd)) w)), (a 102, .inl (cJ, 4800, .inr (.inl g)))]) A
set_option maxHeartbeats 4000000 in
set_option maxRecDepth 100000 in
theorem t_X12_at_o (l : Launch) (dC : Nat → ClassId) (dI : Nat → Nat → Nat) (sz : Nat) (cB cI cJ cZ : ClassId) (h0 : Nat) (a : Nat → Nat) (f : Nat → Int32) (w : Int64) (t1 wd : Nat) (g : Nat → Int64) (x y : Int32) (ht1 : t1 ≤ 1300) (hwd : wd ≤ 8) (hh : ¬ f 81 = 0) (ho : x < 0 ∨ nI t1 ≤ x ∨ y < 0 ∨ nI wd ≤ y) : Met l yX12_at (wsOf yX12_at cX12_at 3 (some .long)) ({ frames := 1, cells := 0, slots := 0, locals := 60 }) (pc_t_X12_at_o dC dI sz cB cI cJ cZ h0 a f w t1 wd g x y) (qc_t_X12_at_o dC dI cB cI cJ cZ h0 a f w t1 wd g x y (va_A (cs_t_X12_at_o cB cI cJ cZ h0 a f w t1 wd g x y) sz)) 0 0 (va_A (cs_t_X12_at_o cB cI cJ cZ h0 a f w t1 wd g x y) sz) := by
  refine Met.ofW (cc := cX12_at) (maxL := 3) (ret := (some .long)) (by decide) rfl ?_
  intro p e s m args below meth c s₁ B hml hv
  obtain ⟨rfl, hsz, hP, hK, hD0⟩ := hv
  have hx := B.exec
  have hb := B.bytes
  have hr := B.returns
  have hts := atoms_spec (ws := (wsOf yX12_at cX12_at 3 (some .long))) B.pre
  have hown : s.vm.findClass RX12 = some m.cls := findClass_of_methodNamed B.named
  have hlocks := B.notSynchronized
  subst hsz
  have hD := hD0.self (sz := s.heap.size)
  generalize hAe : va_A (cs_t_X12_at_o cB cI cJ cZ h0 a f w t1 wd g x y) s.heap.size = A at hD ⊢
  have hA : ∀ q : Nat, s.heap.size ≤ q → A q := fun q h => by rw [← hAe]; exact Or.inr h
  have hS : va_S A s.heap s.heap [] := va_S.rf
  have hP : va_P (dC, dI) vwCl [(h0, .inr (13, moF a (upd (upd f 100 (nI t1)) 101 (nI wd)) w)), (a 102, .inl (cJ, 4800, .inr (.inl g)))] s.heap := hP
  have hl := lv_entry ([.ref h0, .int x, .int y]) (n := 3) (Nat.le_of_ble_eq_true rfl)
  rw [lg_entry_eq]
  generalize (lg_sl ([.ref h0, .int x, .int y]) ++ List.replicate (3 - (lg_sl ([.ref h0, .int x, .int y])).length) Slot.unset).toArray = ls at hl ⊢
  have hl : lv_has ls 3 [(0, .ref h0), (1, .int x), (2, .int y)] := hl
  refine lv_aload_n hx hb dX12_at_0 rfl (lv_at hl 0 rfl) ?_
  refine lv_iload_n hx hb dX12_at_1 rfl (lv_at hl 1 rfl) ?_
  refine lv_iload_n hx hb dX12_at_2 rfl (lv_at hl 2 rfl) ?_
  have hPc := hP.sub (ws' := [(h0, .inr (13, moF a (upd (upd f 100 (nI t1)) 101 (nI wd)) w))]) [0] rfl
  have hDc := hD.sub (ws' := [(h0, .inr (13, moF a (upd (upd f 100 (nI t1)) 101 (nI wd)) w))]) [0] (by decide) rfl
  have hKc := hK.sub (tys' := [(cB, .byte), (cI, .int), (cJ, .long), (cZ, .boolean)]) [0, 1, 2, 3] rfl
  have hFc := va_free (wc := [(h0, .inr (13, moF a (upd (upd f 100 (nI t1)) 101 (nI wd)) w))]) hD hS hA [0] rfl
  refine va_calli (va_runV (As := [.int x, .int y]) (rest := []) ⟨hx, hb, hml, hown, hts⟩ (t_X12_isAnswer_o l dC dI s.heap.size cB cI cJ cZ h0 a f w t1 wd x y ht1 hwd hh ho) (cwV 2 hts (gd_all (in_V kw_2488 kw_2490 kw_179 kw_191 kc_X12_isAnswer)) rfl rfl rfl (by decide +kernel) ⟨Nat.le_of_ble_eq_true rfl, Nat.le_of_ble_eq_true rfl⟩) ⟨fun a U g mk q => by obtain ⟨q0, q1, qP, qK, qD⟩ := q; exact ⟨q0, q1, qP, va_K.moved (u := U) (U := U.calling g mk a) (Vm.Alike.refl U.vm) qK, qD⟩, va_recv hKc hPc (ci := 13) (q0 := 0) rfl rfl, fun U hU hW => ⟨rfl, by rw [hU], by rw [hU]; exact hPc, va_K.moved hW.alike hKc, hDc.weaken (fun _ _ _ _ => trivial)⟩⟩ rfl rfl hl.1 rfl (lv_room (Nat.le_of_ble_eq_true rfl)) dX12_at_3 ⟨Nat.le_of_ble_eq_true rfl, Nat.le_of_ble_eq_true rfl⟩) hS (fun q _ h => hFc q h) hFc (fun r_1 u t_ H1 locs ht hvm hw hB hz1 hk1 hS => ?_)
  obtain ⟨hP1, hK1, hD1⟩ := hB
  rw [ht] at hP1
  have hK1 := va_K.moved hvm.symm hK1
  obtain ⟨hP, hD⟩ := va_join (wr := [(a 102, .inl (cJ, 4800, .inr (.inl g)))]) (w1 := [(h0, .inr (13, moF a (upd (upd f 100 (nI t1)) 101 (nI wd)) w))]) hP hD [0] [1] rfl rfl (by decide) (by decide) hk1 hFc hP1 hD1
  have hK := (hK.sub (tys' := []) [] rfl).app hK1
  generalize H1 = H at hP hS ⊢
  have hP : va_P (dC, dI) vwCl [(a 102, .inl (cJ, 4800, .inr (.inl g))), (h0, .inr (13, moF a (upd (upd f 100 (nI t1)) 101 (nI wd)) w))] H := hP
  have hD : va_D A [(a 102, .inl (cJ, 4800, .inr (.inl g))), (h0, .inr (13, moF a (upd (upd f 100 (nI t1)) 101 (nI wd)) w))] := hD
  have hK : va_K (dC, dI) vwCl [(cB, .byte), (cI, .int), (cJ, .long), (cZ, .boolean)] s := hK
  have er_1 : r_1 = 0 := hw
  rw [er_1]
  refine lv_if_eq (tgt := 25) hx hb dX12_at_6 (by decide) (fun c_2 => ?_) (fun c_2 => ?_)
  · skip
    refine lv_lconst (v := 0) hx hb dX12_at_25 (by decide) ?_
    have hP9 := hP.sub (ws' := [(h0, .inr (13, moF a (upd (upd f 100 (nI t1)) 101 (nI wd)) w)), (a 102, .inl (cJ, 4800, .inr (.inl g)))]) [1, 0] rfl
    have hD9 := hD.sub (ws' := [(h0, .inr (13, moF a (upd (upd f 100 (nI t1)) 101 (nI wd)) w)), (a 102, .inl (cJ, 4800, .inr (.inl g)))]) [1, 0] (by decide) rfl
    have hK9 := hK.sub (tys' := [(cB, .byte), (cI, .int), (cJ, .long), (cZ, .boolean)]) [0, 1, 2, 3] rfl
    exact W.lret (v := 0) hx hb hr (fun t_ ht hW => ⟨⟨0, (), rfl, rfl, by rw [ht]; exact hP9, va_K.moved hW.alike hK9, hD9⟩, hS.F ht⟩) hS.2.2 dX12_at_26
  · skip
    exact absurd c_2 (by decide)
theorem dX12_isNull_0 : decode cX12_isNull 0 = .ok (.aload_n 0, 1) := by decide +kernel
theorem dX12_isNull_1 : decode cX12_isNull 1 = .ok (.iload_n 1, 1) := by decide +kernel
theorem dX12_isNull_2 : decode cX12_isNull 2 = .ok (.iload_n 2, 1) := by decide +kernel
theorem dX12_isNull_3 : decode cX12_isNull 3 = .ok (.invokevirtual 740, 3) := by decide +kernel
theorem dX12_isNull_6 : decode cX12_isNull 6 = .ok (.ifCond .eq 23, 3) := by decide +kernel
theorem dX12_isNull_9 : decode cX12_isNull 9 = .ok (.aload_n 0, 1) := by decide +kernel
theorem dX12_isNull_10 : decode cX12_isNull 10 = .ok (.getfield 218, 3) := by decide +kernel
theorem dX12_isNull_13 : decode cX12_isNull 13 = .ok (.aload_n 0, 1) := by decide +kernel
theorem dX12_isNull_14 : decode cX12_isNull 14 = .ok (.getfield 719, 3) := by decide +kernel
theorem dX12_isNull_17 : decode cX12_isNull 17 = .ok (.iload_n 1, 1) := by decide +kernel
theorem dX12_isNull_18 : decode cX12_isNull 18 = .ok (.imul, 1) := by decide +kernel
theorem dX12_isNull_19 : decode cX12_isNull 19 = .ok (.iload_n 2, 1) := by decide +kernel
theorem dX12_isNull_20 : decode cX12_isNull 20 = .ok (.iadd, 1) := by decide +kernel
theorem dX12_isNull_21 : decode cX12_isNull 21 = .ok (.baload, 1) := by decide +kernel
theorem dX12_isNull_22 : decode cX12_isNull 22 = .ok (.ifCond .eq 7, 3) := by decide +kernel
theorem dX12_isNull_25 : decode cX12_isNull 25 = .ok (.iconst 1, 1) := by decide +kernel
theorem dX12_isNull_26 : decode cX12_isNull 26 = .ok (.goto 4, 3) := by decide +kernel
theorem dX12_isNull_29 : decode cX12_isNull 29 = .ok (.iconst 0, 1) := by decide +kernel
theorem dX12_isNull_30 : decode cX12_isNull 30 = .ok (.ireturn, 1) := by decide +kernel
abbrev cs_t_X12_isNull_in (cB cI cJ cZ : ClassId) (h0 : Nat) (a : Nat → Nat) (f : Nat → Int32) (w : Int64) (t1 wd : Nat) (g : Nat → Int32) (i c1 : Nat) : va_W := [(h0, .inr (13, moF a (upd (upd f 100 (nI t1)) 101 (nI wd)) w)), (a 103, .inl (cZ, 4800, .inl g))]
abbrev pc_t_X12_isNull_in (dC : Nat → ClassId) (dI : Nat → Nat → Nat) (sz : Nat) (cB cI cJ cZ : ClassId) (h0 : Nat) (a : Nat → Nat) (f : Nat → Int32) (w : Int64) (t1 wd : Nat) (g : Nat → Int32) (i c1 : Nat) : Array Value → State → Prop := va_Pc [.ref h0, .int (nI i), .int (nI c1)] (fun U => U.heap.size = sz ∧ va_P (dC, dI) vwCl [(h0, .inr (13, moF a (upd (upd f 100 (nI t1)) 101 (nI wd)) w)), (a 103, .inl (cZ, 4800, .inl g))] U.heap ∧ va_K (dC, dI) vwCl [(cB, .byte), (cI, .int), (cJ, .long), (cZ, .boolean)] U ∧ va_D (fun _ => True) [(h0, .inr (13, moF a (upd (upd f 100 (nI t1)) 101 (nI wd)) w)), (a 103, .inl (cZ, 4800, .inl g))])
abbrev qc_t_X12_isNull_in (dC : Nat → ClassId) (dI : Nat → Nat → Nat) (cB cI cJ cZ : ClassId) (h0 : Nat) (a : Nat → Nat) (f : Nat → Int32) (w : Int64) (t1 wd : Nat) (g : Nat → Int32) (i c1 : Nat) (A : Nat → Prop) : Array Value → State → Outcome → State → Prop := va_Qi (fun (r : Int32) (u : Unit) => match u with | _ => r = hvI (g (wd * i + c1))) (fun (u : Unit) t_ => match u with | _ => va_P (dC, dI) vwCl [(h0, .inr (13, moF a (upd (upd f 100 (nI t1)) 101 (nI wd)) w)), (a 103, .inl (cZ, 4800, .inl g))] t_.heap ∧ va_K (dC, dI) vwCl [(cB, .byte), (cI, .int), (cJ, .long), (cZ, .boolean)] t_ ∧ va_D A [(h0, .inr (13, moF a (upd (upd f 100 (nI t1)) 101 (nI wd)) w)), (a 103, .inl (cZ, 4800, .inl g))]) A
set_option maxHeartbeats 4000000 in
set_option maxRecDepth 100000 in
theorem t_X12_isNull_in (l : Launch) (dC : Nat → ClassId) (dI : Nat → Nat → Nat) (sz : Nat) (cB cI cJ cZ : ClassId) (h0 : Nat) (a : Nat → Nat) (f : Nat → Int32) (w : Int64) (t1 wd : Nat) (g : Nat → Int32) (i c1 : Nat) (ht1 : t1 ≤ 1300) (hwd : wd ≤ 8) (hh : ¬ f 81 = 0) (hi : i < t1) (hc : c1 < wd) (hb9 : wd * i + c1 < 4800) : Met l yX12_isNull (wsOf yX12_isNull cX12_isNull 3 (some .boolean)) ({ frames := 1, cells := 0, slots := 0, locals := 60 }) (pc_t_X12_isNull_in dC dI sz cB cI cJ cZ h0 a f w t1 wd g i c1) (qc_t_X12_isNull_in dC dI cB cI cJ cZ h0 a f w t1 wd g i c1 (va_A (cs_t_X12_isNull_in cB cI cJ cZ h0 a f w t1 wd g i c1) sz)) 0 0 (va_A (cs_t_X12_isNull_in cB cI cJ cZ h0 a f w t1 wd g i c1) sz) := by
  refine Met.ofW (cc := cX12_isNull) (maxL := 3) (ret := (some .boolean)) (by decide) rfl ?_
  intro p e s m args below meth c s₁ B hml hv
  obtain ⟨rfl, hsz, hP, hK, hD0⟩ := hv
  have hx := B.exec
  have hb := B.bytes
  have hr := B.returns
  have hts := atoms_spec (ws := (wsOf yX12_isNull cX12_isNull 3 (some .boolean))) B.pre
  have hown : s.vm.findClass RX12 = some m.cls := findClass_of_methodNamed B.named
  have hlocks := B.notSynchronized
  subst hsz
  have hD := hD0.self (sz := s.heap.size)
  generalize hAe : va_A (cs_t_X12_isNull_in cB cI cJ cZ h0 a f w t1 wd g i c1) s.heap.size = A at hD ⊢
  have hA : ∀ q : Nat, s.heap.size ≤ q → A q := fun q h => by rw [← hAe]; exact Or.inr h
  have hS : va_S A s.heap s.heap [] := va_S.rf
  have hP : va_P (dC, dI) vwCl [(h0, .inr (13, moF a (upd (upd f 100 (nI t1)) 101 (nI wd)) w)), (a 103, .inl (cZ, 4800, .inl g))] s.heap := hP
  have hl := lv_entry ([.ref h0, .int (nI i), .int (nI c1)]) (n := 3) (Nat.le_of_ble_eq_true rfl)
  rw [lg_entry_eq]
  generalize (lg_sl ([.ref h0, .int (nI i), .int (nI c1)]) ++ List.replicate (3 - (lg_sl ([.ref h0, .int (nI i), .int (nI c1)])).length) Slot.unset).toArray = ls at hl ⊢
  have hl : lv_has ls 3 [(0, .ref h0), (1, .int (nI i)), (2, .int (nI c1))] := hl
  refine lv_aload_n hx hb dX12_isNull_0 rfl (lv_at hl 0 rfl) ?_
  refine lv_iload_n hx hb dX12_isNull_1 rfl (lv_at hl 1 rfl) ?_
  refine lv_iload_n hx hb dX12_isNull_2 rfl (lv_at hl 2 rfl) ?_
  have hPc := hP.sub (ws' := [(h0, .inr (13, moF a (upd (upd f 100 (nI t1)) 101 (nI wd)) w))]) [0] rfl
  have hDc := hD.sub (ws' := [(h0, .inr (13, moF a (upd (upd f 100 (nI t1)) 101 (nI wd)) w))]) [0] (by decide) rfl
  have hKc := hK.sub (tys' := [(cB, .byte), (cI, .int), (cJ, .long), (cZ, .boolean)]) [0, 1, 2, 3] rfl
  have hFc := va_free (wc := [(h0, .inr (13, moF a (upd (upd f 100 (nI t1)) 101 (nI wd)) w))]) hD hS hA [0] rfl
  refine va_calli (va_runV (As := [.int (nI i), .int (nI c1)]) (rest := []) ⟨hx, hb, hml, hown, hts⟩ (t_X12_isAnswer_in l dC dI s.heap.size cB cI cJ cZ h0 a f w t1 wd i c1 ht1 hwd hh hi hc) (cwV 2 hts (gd_all (in_V kw_2488 kw_2490 kw_179 kw_191 kc_X12_isAnswer)) rfl rfl rfl (by decide +kernel) ⟨Nat.le_of_ble_eq_true rfl, Nat.le_of_ble_eq_true rfl⟩) ⟨fun a U g mk q => by obtain ⟨q0, q1, qP, qK, qD⟩ := q; exact ⟨q0, q1, qP, va_K.moved (u := U) (U := U.calling g mk a) (Vm.Alike.refl U.vm) qK, qD⟩, va_recv hKc hPc (ci := 13) (q0 := 0) rfl rfl, fun U hU hW => ⟨rfl, by rw [hU], by rw [hU]; exact hPc, va_K.moved hW.alike hKc, hDc.weaken (fun _ _ _ _ => trivial)⟩⟩ rfl rfl hl.1 rfl (lv_room (Nat.le_of_ble_eq_true rfl)) dX12_isNull_3 ⟨Nat.le_of_ble_eq_true rfl, Nat.le_of_ble_eq_true rfl⟩) hS (fun q _ h => hFc q h) hFc (fun r_1 u t_ H1 locs ht hvm hw hB hz1 hk1 hS => ?_)
  obtain ⟨hP1, hK1, hD1⟩ := hB
  rw [ht] at hP1
  have hK1 := va_K.moved hvm.symm hK1
  obtain ⟨hP, hD⟩ := va_join (wr := [(a 103, .inl (cZ, 4800, .inl g))]) (w1 := [(h0, .inr (13, moF a (upd (upd f 100 (nI t1)) 101 (nI wd)) w))]) hP hD [0] [1] rfl rfl (by decide) (by decide) hk1 hFc hP1 hD1
  have hK := (hK.sub (tys' := []) [] rfl).app hK1
  generalize H1 = H at hP hS ⊢
  have hP : va_P (dC, dI) vwCl [(a 103, .inl (cZ, 4800, .inl g)), (h0, .inr (13, moF a (upd (upd f 100 (nI t1)) 101 (nI wd)) w))] H := hP
  have hD : va_D A [(a 103, .inl (cZ, 4800, .inl g)), (h0, .inr (13, moF a (upd (upd f 100 (nI t1)) 101 (nI wd)) w))] := hD
  have hK : va_K (dC, dI) vwCl [(cB, .byte), (cI, .int), (cJ, .long), (cZ, .boolean)] s := hK
  have er_1 : r_1 = 1 := hw
  rw [er_1]
  refine lv_if_eq (tgt := 29) hx hb dX12_isNull_6 (by decide) (fun c_2 => ?_) (fun c_2 => ?_)
  · skip
    exact absurd c_2 (by decide)
  · skip
    refine lv_aload_n hx hb dX12_isNull_9 rfl (lv_at hl 0 rfl) ?_
    refine va_get (D := (dC, dI)) (ci := 13) (v := .ref (a 103)) (C := RX12) (T := TX12) (N := 115) hx hb hts (fun w h => List.mem_cons_of_mem _ (uG_X12 w h)) hown hK hP 1 rfl rfl 103 (by decide) (hts _ (List.mem_cons_of_mem _ kw_1794)) (fun _ h9 => h9) rfl dX12_isNull_10 ?_
    refine lv_aload_n hx hb dX12_isNull_13 rfl (lv_at hl 0 rfl) ?_
    refine va_get (D := (dC, dI)) (ci := 13) (v := .int (nI wd)) (C := RX12) (T := TX12) (N := 115) hx hb hts (fun w h => List.mem_cons_of_mem _ (uG_X12 w h)) hown hK hP 1 rfl rfl 101 (by decide) (hts _ (List.mem_cons_of_mem _ kw_1792)) (fun _ h9 => h9) rfl dX12_isNull_14 ?_
    refine lv_iload_n hx hb dX12_isNull_17 rfl (lv_at hl 1 rfl) ?_
    refine lv_imul hx hb dX12_isNull_18 ?_
    refine lv_topi (fun x_3 ex_3 => ?_)
    have ex_3 : x_3 = nI (wd * i) := ex_3.trans (pk_mul wd i)
    subst ex_3
    refine lv_iload_n hx hb dX12_isNull_19 rfl (lv_at hl 2 rfl) ?_
    refine lv_iadd hx hb dX12_isNull_20 ?_
    refine lv_topi (fun x_4 ex_4 => ?_)
    have ex_4 : x_4 = nI (wd * i + c1) := ex_4.trans (nI_add (wd * i) c1)
    subst ex_4
    refine va_zald hx hb hK hP 0 3 rfl rfl (i := (nI (wd * i + c1))) (vp_in_nI (n := wd * i + c1) (N := 4800) (by omega) (by omega)) dX12_isNull_21 ?_
    refine lv_topi (fun x_5 ex_5 => ?_)
    have ex_5 : x_5 = g (wd * i + c1) := ex_5.trans (congrArg g (nI_clamp (n := wd * i + c1) (by omega)))
    subst ex_5
    refine lv_if_eq (tgt := 29) hx hb dX12_isNull_22 (by decide) (fun c_6 => ?_) (fun c_6 => ?_)
    · skip
      refine lv_iconst (v := 0) hx hb dX12_isNull_29 (by decide) ?_
      have hP9 := hP.sub (ws' := [(h0, .inr (13, moF a (upd (upd f 100 (nI t1)) 101 (nI wd)) w)), (a 103, .inl (cZ, 4800, .inl g))]) [1, 0] rfl
      have hD9 := hD.sub (ws' := [(h0, .inr (13, moF a (upd (upd f 100 (nI t1)) 101 (nI wd)) w)), (a 103, .inl (cZ, 4800, .inl g))]) [1, 0] (by decide) rfl
      have hK9 := hK.sub (tys' := [(cB, .byte), (cI, .int), (cJ, .long), (cZ, .boolean)]) [0, 1, 2, 3] rfl
      exact W.zret (v := 0) hx hb hr (by rfl) (fun t_ ht hW => ⟨⟨0, (), rfl, by unfold hvI; rw [if_pos c_6], by rw [ht]; exact hP9, va_K.moved hW.alike hK9, hD9⟩, hS.F ht⟩) hS.2.2 dX12_isNull_30
    · skip
      refine lv_iconst (v := 1) hx hb dX12_isNull_25 (by decide) ?_
      refine lv_goto (tgt := 30) hx hb dX12_isNull_26 (by decide) ?_
      have hP9 := hP.sub (ws' := [(h0, .inr (13, moF a (upd (upd f 100 (nI t1)) 101 (nI wd)) w)), (a 103, .inl (cZ, 4800, .inl g))]) [1, 0] rfl
      have hD9 := hD.sub (ws' := [(h0, .inr (13, moF a (upd (upd f 100 (nI t1)) 101 (nI wd)) w)), (a 103, .inl (cZ, 4800, .inl g))]) [1, 0] (by decide) rfl
      have hK9 := hK.sub (tys' := [(cB, .byte), (cI, .int), (cJ, .long), (cZ, .boolean)]) [0, 1, 2, 3] rfl
      exact W.zret (v := 1) hx hb hr (by rfl) (fun t_ ht hW => ⟨⟨1, (), rfl, by unfold hvI; rw [if_neg c_6], by rw [ht]; exact hP9, va_K.moved hW.alike hK9, hD9⟩, hS.F ht⟩) hS.2.2 dX12_isNull_30
abbrev cs_t_X12_isNull_o (cB cI cJ cZ : ClassId) (h0 : Nat) (a : Nat → Nat) (f : Nat → Int32) (w : Int64) (t1 wd : Nat) (g : Nat → Int32) (x y : Int32) : va_W := [(h0, .inr (13, moF a (upd (upd f 100 (nI t1)) 101 (nI wd)) w)), (a 103, .inl (cZ, 4800, .inl g))]
abbrev pc_t_X12_isNull_o (dC : Nat → ClassId) (dI : Nat → Nat → Nat) (sz : Nat) (cB cI cJ cZ : ClassId) (h0 : Nat) (a : Nat → Nat) (f : Nat → Int32) (w : Int64) (t1 wd : Nat) (g : Nat → Int32) (x y : Int32) : Array Value → State → Prop := va_Pc [.ref h0, .int x, .int y] (fun U => U.heap.size = sz ∧ va_P (dC, dI) vwCl [(h0, .inr (13, moF a (upd (upd f 100 (nI t1)) 101 (nI wd)) w)), (a 103, .inl (cZ, 4800, .inl g))] U.heap ∧ va_K (dC, dI) vwCl [(cB, .byte), (cI, .int), (cJ, .long), (cZ, .boolean)] U ∧ va_D (fun _ => True) [(h0, .inr (13, moF a (upd (upd f 100 (nI t1)) 101 (nI wd)) w)), (a 103, .inl (cZ, 4800, .inl g))])
abbrev qc_t_X12_isNull_o (dC : Nat → ClassId) (dI : Nat → Nat → Nat) (cB cI cJ cZ : ClassId) (h0 : Nat) (a : Nat → Nat) (f : Nat → Int32) (w : Int64) (t1 wd : Nat) (g : Nat → Int32) (x y : Int32) (A : Nat → Prop) : Array Value → State → Outcome → State → Prop := va_Qi (fun (r : Int32) (u : Unit) => match u with | _ => r = 0) (fun (u : Unit) t_ => match u with | _ => va_P (dC, dI) vwCl [(h0, .inr (13, moF a (upd (upd f 100 (nI t1)) 101 (nI wd)) w)), (a 103, .inl (cZ, 4800, .inl g))] t_.heap ∧ va_K (dC, dI) vwCl [(cB, .byte), (cI, .int), (cJ, .long), (cZ, .boolean)] t_ ∧ va_D A [(h0, .inr (13, moF a (upd (upd f 100 (nI t1)) 101 (nI wd)) w)), (a 103, .inl (cZ, 4800, .inl g))]) A
set_option maxHeartbeats 4000000 in
set_option maxRecDepth 100000 in
theorem t_X12_isNull_o (l : Launch) (dC : Nat → ClassId) (dI : Nat → Nat → Nat) (sz : Nat) (cB cI cJ cZ : ClassId) (h0 : Nat) (a : Nat → Nat) (f : Nat → Int32) (w : Int64) (t1 wd : Nat) (g : Nat → Int32) (x y : Int32) (ht1 : t1 ≤ 1300) (hwd : wd ≤ 8) (hh : ¬ f 81 = 0) (ho : x < 0 ∨ nI t1 ≤ x ∨ y < 0 ∨ nI wd ≤ y) : Met l yX12_isNull (wsOf yX12_isNull cX12_isNull 3 (some .boolean)) ({ frames := 1, cells := 0, slots := 0, locals := 60 }) (pc_t_X12_isNull_o dC dI sz cB cI cJ cZ h0 a f w t1 wd g x y) (qc_t_X12_isNull_o dC dI cB cI cJ cZ h0 a f w t1 wd g x y (va_A (cs_t_X12_isNull_o cB cI cJ cZ h0 a f w t1 wd g x y) sz)) 0 0 (va_A (cs_t_X12_isNull_o cB cI cJ cZ h0 a f w t1 wd g x y) sz) := by
  refine Met.ofW (cc := cX12_isNull) (maxL := 3) (ret := (some .boolean)) (by decide) rfl ?_
  intro p e s m args below meth c s₁ B hml hv
  obtain ⟨rfl, hsz, hP, hK, hD0⟩ := hv
  have hx := B.exec
  have hb := B.bytes
  have hr := B.returns
  have hts := atoms_spec (ws := (wsOf yX12_isNull cX12_isNull 3 (some .boolean))) B.pre
  have hown : s.vm.findClass RX12 = some m.cls := findClass_of_methodNamed B.named
  have hlocks := B.notSynchronized
  subst hsz
  have hD := hD0.self (sz := s.heap.size)
  generalize hAe : va_A (cs_t_X12_isNull_o cB cI cJ cZ h0 a f w t1 wd g x y) s.heap.size = A at hD ⊢
  have hA : ∀ q : Nat, s.heap.size ≤ q → A q := fun q h => by rw [← hAe]; exact Or.inr h
  have hS : va_S A s.heap s.heap [] := va_S.rf
  have hP : va_P (dC, dI) vwCl [(h0, .inr (13, moF a (upd (upd f 100 (nI t1)) 101 (nI wd)) w)), (a 103, .inl (cZ, 4800, .inl g))] s.heap := hP
  have hl := lv_entry ([.ref h0, .int x, .int y]) (n := 3) (Nat.le_of_ble_eq_true rfl)
  rw [lg_entry_eq]
  generalize (lg_sl ([.ref h0, .int x, .int y]) ++ List.replicate (3 - (lg_sl ([.ref h0, .int x, .int y])).length) Slot.unset).toArray = ls at hl ⊢
  have hl : lv_has ls 3 [(0, .ref h0), (1, .int x), (2, .int y)] := hl
  refine lv_aload_n hx hb dX12_isNull_0 rfl (lv_at hl 0 rfl) ?_
  refine lv_iload_n hx hb dX12_isNull_1 rfl (lv_at hl 1 rfl) ?_
  refine lv_iload_n hx hb dX12_isNull_2 rfl (lv_at hl 2 rfl) ?_
  have hPc := hP.sub (ws' := [(h0, .inr (13, moF a (upd (upd f 100 (nI t1)) 101 (nI wd)) w))]) [0] rfl
  have hDc := hD.sub (ws' := [(h0, .inr (13, moF a (upd (upd f 100 (nI t1)) 101 (nI wd)) w))]) [0] (by decide) rfl
  have hKc := hK.sub (tys' := [(cB, .byte), (cI, .int), (cJ, .long), (cZ, .boolean)]) [0, 1, 2, 3] rfl
  have hFc := va_free (wc := [(h0, .inr (13, moF a (upd (upd f 100 (nI t1)) 101 (nI wd)) w))]) hD hS hA [0] rfl
  refine va_calli (va_runV (As := [.int x, .int y]) (rest := []) ⟨hx, hb, hml, hown, hts⟩ (t_X12_isAnswer_o l dC dI s.heap.size cB cI cJ cZ h0 a f w t1 wd x y ht1 hwd hh ho) (cwV 2 hts (gd_all (in_V kw_2488 kw_2490 kw_179 kw_191 kc_X12_isAnswer)) rfl rfl rfl (by decide +kernel) ⟨Nat.le_of_ble_eq_true rfl, Nat.le_of_ble_eq_true rfl⟩) ⟨fun a U g mk q => by obtain ⟨q0, q1, qP, qK, qD⟩ := q; exact ⟨q0, q1, qP, va_K.moved (u := U) (U := U.calling g mk a) (Vm.Alike.refl U.vm) qK, qD⟩, va_recv hKc hPc (ci := 13) (q0 := 0) rfl rfl, fun U hU hW => ⟨rfl, by rw [hU], by rw [hU]; exact hPc, va_K.moved hW.alike hKc, hDc.weaken (fun _ _ _ _ => trivial)⟩⟩ rfl rfl hl.1 rfl (lv_room (Nat.le_of_ble_eq_true rfl)) dX12_isNull_3 ⟨Nat.le_of_ble_eq_true rfl, Nat.le_of_ble_eq_true rfl⟩) hS (fun q _ h => hFc q h) hFc (fun r_1 u t_ H1 locs ht hvm hw hB hz1 hk1 hS => ?_)
  obtain ⟨hP1, hK1, hD1⟩ := hB
  rw [ht] at hP1
  have hK1 := va_K.moved hvm.symm hK1
  obtain ⟨hP, hD⟩ := va_join (wr := [(a 103, .inl (cZ, 4800, .inl g))]) (w1 := [(h0, .inr (13, moF a (upd (upd f 100 (nI t1)) 101 (nI wd)) w))]) hP hD [0] [1] rfl rfl (by decide) (by decide) hk1 hFc hP1 hD1
  have hK := (hK.sub (tys' := []) [] rfl).app hK1
  generalize H1 = H at hP hS ⊢
  have hP : va_P (dC, dI) vwCl [(a 103, .inl (cZ, 4800, .inl g)), (h0, .inr (13, moF a (upd (upd f 100 (nI t1)) 101 (nI wd)) w))] H := hP
  have hD : va_D A [(a 103, .inl (cZ, 4800, .inl g)), (h0, .inr (13, moF a (upd (upd f 100 (nI t1)) 101 (nI wd)) w))] := hD
  have hK : va_K (dC, dI) vwCl [(cB, .byte), (cI, .int), (cJ, .long), (cZ, .boolean)] s := hK
  have er_1 : r_1 = 0 := hw
  rw [er_1]
  refine lv_if_eq (tgt := 29) hx hb dX12_isNull_6 (by decide) (fun c_2 => ?_) (fun c_2 => ?_)
  · skip
    refine lv_iconst (v := 0) hx hb dX12_isNull_29 (by decide) ?_
    have hP9 := hP.sub (ws' := [(h0, .inr (13, moF a (upd (upd f 100 (nI t1)) 101 (nI wd)) w)), (a 103, .inl (cZ, 4800, .inl g))]) [1, 0] rfl
    have hD9 := hD.sub (ws' := [(h0, .inr (13, moF a (upd (upd f 100 (nI t1)) 101 (nI wd)) w)), (a 103, .inl (cZ, 4800, .inl g))]) [1, 0] (by decide) rfl
    have hK9 := hK.sub (tys' := [(cB, .byte), (cI, .int), (cJ, .long), (cZ, .boolean)]) [0, 1, 2, 3] rfl
    exact W.zret (v := 0) hx hb hr (by rfl) (fun t_ ht hW => ⟨⟨0, (), rfl, rfl, by rw [ht]; exact hP9, va_K.moved hW.alike hK9, hD9⟩, hS.F ht⟩) hS.2.2 dX12_isNull_30
  · skip
    exact absurd c_2 (by decide)
