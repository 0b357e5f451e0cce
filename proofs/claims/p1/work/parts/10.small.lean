def cutF (ts n : Int32) : Int32 × Int32 := if n < 0 then (-1, ts) else if n ≤ ts then (ts - n, n) else (-1, ts)
theorem dX11_fault_0 : decode cX11_fault 0 = .ok (.aload_n 0, 1) := by decide +kernel
theorem dX11_fault_1 : decode cX11_fault 1 = .ok (.getfield 101, 3) := by decide +kernel
theorem dX11_fault_4 : decode cX11_fault 4 = .ok (.ireturn, 1) := by decide +kernel
abbrev cs_t_X11_fault (h0 : Nat) (v0 v2 v3 v5 v6 v7 v8 v9 v10 v12 v13 v15 : Value) (ts lf ar ct : Int32) : va_W := [(h0, .inr (12, [v0, .int ts, v2, v3, .int lf, v5, v6, v7, v8, v9, v10, .int ar, v12, v13, .int ct, v15]))]
abbrev pc_t_X11_fault (dC : Nat → ClassId) (dI : Nat → Nat → Nat) (sz : Nat) (h0 : Nat) (v0 v2 v3 v5 v6 v7 v8 v9 v10 v12 v13 v15 : Value) (ts lf ar ct : Int32) : Array Value → State → Prop := va_Pc [.ref h0] (fun U => U.heap.size = sz ∧ va_P (dC, dI) vwCl [(h0, .inr (12, [v0, .int ts, v2, v3, .int lf, v5, v6, v7, v8, v9, v10, .int ar, v12, v13, .int ct, v15]))] U.heap ∧ va_K (dC, dI) vwCl [] U ∧ va_D (fun _ => True) [(h0, .inr (12, [v0, .int ts, v2, v3, .int lf, v5, v6, v7, v8, v9, v10, .int ar, v12, v13, .int ct, v15]))])
abbrev qc_t_X11_fault (dC : Nat → ClassId) (dI : Nat → Nat → Nat) (h0 : Nat) (v0 v2 v3 v5 v6 v7 v8 v9 v10 v12 v13 v15 : Value) (ts lf ar ct : Int32) (A : Nat → Prop) : Array Value → State → Outcome → State → Prop := va_Qi (fun (r : Int32) (u : Unit) => match u with | _ => r = lf) (fun (u : Unit) t_ => match u with | _ => va_P (dC, dI) vwCl [(h0, .inr (12, [v0, .int ts, v2, v3, .int lf, v5, v6, v7, v8, v9, v10, .int ar, v12, v13, .int ct, v15]))] t_.heap ∧ va_K (dC, dI) vwCl [] t_ ∧ va_D A [(h0, .inr (12, [v0, .int ts, v2, v3, .int lf, v5, v6, v7, v8, v9, v10, .int ar, v12, v13, .int ct, v15]))]) A
set_option maxHeartbeats 4000000 in
set_option maxRecDepth 100000 in
theorem t_X11_fault (l : Launch) (dC : Nat → ClassId) (dI : Nat → Nat → Nat) (sz : Nat) (h0 : Nat) (v0 v2 v3 v5 v6 v7 v8 v9 v10 v12 v13 v15 : Value) (ts lf ar ct : Int32)  : Met l yX11_fault (wsOf yX11_fault cX11_fault 1 (some .int)) ({ frames := 0, cells := 0, slots := 0, locals := 0 }) (pc_t_X11_fault dC dI sz h0 v0 v2 v3 v5 v6 v7 v8 v9 v10 v12 v13 v15 ts lf ar ct) (qc_t_X11_fault dC dI h0 v0 v2 v3 v5 v6 v7 v8 v9 v10 v12 v13 v15 ts lf ar ct (va_A (cs_t_X11_fault h0 v0 v2 v3 v5 v6 v7 v8 v9 v10 v12 v13 v15 ts lf ar ct) sz)) 0 0 (va_A (cs_t_X11_fault h0 v0 v2 v3 v5 v6 v7 v8 v9 v10 v12 v13 v15 ts lf ar ct) sz) := by
  refine Met.ofW (cc := cX11_fault) (maxL := 1) (ret := (some .int)) (by decide) rfl ?_
  intro p e s m args below meth c s₁ B hml hv
  obtain ⟨rfl, hsz, hP, hK, hD0⟩ := hv
  have hx := B.exec
  have hb := B.bytes
  have hr := B.returns
  have hts := atoms_spec (ws := (wsOf yX11_fault cX11_fault 1 (some .int))) B.pre
  have hown : s.vm.findClass RX11 = some m.cls := findClass_of_methodNamed B.named
  have hlocks := B.notSynchronized
  subst hsz
  have hD := hD0.self (sz := s.heap.size)
  generalize hAe : va_A (cs_t_X11_fault h0 v0 v2 v3 v5 v6 v7 v8 v9 v10 v12 v13 v15 ts lf ar ct) s.heap.size = A at hD ⊢
  have hA : ∀ q : Nat, s.heap.size ≤ q → A q := fun q h => by rw [← hAe]; exact Or.inr h
  have hS : va_S A s.heap s.heap [] := va_S.rf
  have hP : va_P (dC, dI) vwCl [(h0, .inr (12, [v0, .int ts, v2, v3, .int lf, v5, v6, v7, v8, v9, v10, .int ar, v12, v13, .int ct, v15]))] s.heap := hP
  have hl := lv_entry ([.ref h0]) (n := 1) (Nat.le_of_ble_eq_true rfl)
  rw [lg_entry_eq]
  generalize (lg_sl ([.ref h0]) ++ List.replicate (1 - (lg_sl ([.ref h0])).length) Slot.unset).toArray = ls at hl ⊢
  have hl : lv_has ls 1 [(0, .ref h0)] := hl
  refine lv_aload_n hx hb dX11_fault_0 rfl (lv_at hl 0 rfl) ?_
  refine va_get (D := (dC, dI)) (ci := 12) (v := .int lf) (C := RX11) (T := TX11) (N := 16) hx hb hts (fun w h => List.mem_cons_of_mem _ (uG_X11 w h)) hown hK hP 0 rfl rfl 4 (by decide) (hts _ (List.mem_cons_of_mem _ kw_432)) (fun _ h9 => h9) rfl dX11_fault_1 ?_
  have hP9 := hP.sub (ws' := [(h0, .inr (12, [v0, .int ts, v2, v3, .int lf, v5, v6, v7, v8, v9, v10, .int ar, v12, v13, .int ct, v15]))]) [0] rfl
  have hD9 := hD.sub (ws' := [(h0, .inr (12, [v0, .int ts, v2, v3, .int lf, v5, v6, v7, v8, v9, v10, .int ar, v12, v13, .int ct, v15]))]) [0] (by decide) rfl
  have hK9 := hK.sub (tys' := []) [] rfl
  exact W.iret (v := lf) hx hb hr (fun t_ ht hW => ⟨⟨lf, (), rfl, rfl, by rw [ht]; exact hP9, va_K.moved hW.alike hK9, hD9⟩, hS.F ht⟩) hS.2.2 dX11_fault_4
theorem dX11_changes_0 : decode cX11_changes 0 = .ok (.aload_n 0, 1) := by decide +kernel
theorem dX11_changes_1 : decode cX11_changes 1 = .ok (.getfield 98, 3) := by decide +kernel
theorem dX11_changes_4 : decode cX11_changes 4 = .ok (.ireturn, 1) := by decide +kernel
abbrev cs_t_X11_changes (h0 : Nat) (v0 v2 v3 v5 v6 v7 v8 v9 v10 v12 v13 v15 : Value) (ts lf ar ct : Int32) : va_W := [(h0, .inr (12, [v0, .int ts, v2, v3, .int lf, v5, v6, v7, v8, v9, v10, .int ar, v12, v13, .int ct, v15]))]
abbrev pc_t_X11_changes (dC : Nat → ClassId) (dI : Nat → Nat → Nat) (sz : Nat) (h0 : Nat) (v0 v2 v3 v5 v6 v7 v8 v9 v10 v12 v13 v15 : Value) (ts lf ar ct : Int32) : Array Value → State → Prop := va_Pc [.ref h0] (fun U => U.heap.size = sz ∧ va_P (dC, dI) vwCl [(h0, .inr (12, [v0, .int ts, v2, v3, .int lf, v5, v6, v7, v8, v9, v10, .int ar, v12, v13, .int ct, v15]))] U.heap ∧ va_K (dC, dI) vwCl [] U ∧ va_D (fun _ => True) [(h0, .inr (12, [v0, .int ts, v2, v3, .int lf, v5, v6, v7, v8, v9, v10, .int ar, v12, v13, .int ct, v15]))])
abbrev qc_t_X11_changes (dC : Nat → ClassId) (dI : Nat → Nat → Nat) (h0 : Nat) (v0 v2 v3 v5 v6 v7 v8 v9 v10 v12 v13 v15 : Value) (ts lf ar ct : Int32) (A : Nat → Prop) : Array Value → State → Outcome → State → Prop := va_Qi (fun (r : Int32) (u : Unit) => match u with | _ => r = ct) (fun (u : Unit) t_ => match u with | _ => va_P (dC, dI) vwCl [(h0, .inr (12, [v0, .int ts, v2, v3, .int lf, v5, v6, v7, v8, v9, v10, .int ar, v12, v13, .int ct, v15]))] t_.heap ∧ va_K (dC, dI) vwCl [] t_ ∧ va_D A [(h0, .inr (12, [v0, .int ts, v2, v3, .int lf, v5, v6, v7, v8, v9, v10, .int ar, v12, v13, .int ct, v15]))]) A
set_option maxHeartbeats 4000000 in
set_option maxRecDepth 100000 in
theorem t_X11_changes (l : Launch) (dC : Nat → ClassId) (dI : Nat → Nat → Nat) (sz : Nat) (h0 : Nat) (v0 v2 v3 v5 v6 v7 v8 v9 v10 v12 v13 v15 : Value) (ts lf ar ct : Int32)  : Met l yX11_changes (wsOf yX11_changes cX11_changes 1 (some .int)) ({ frames := 0, cells := 0, slots := 0, locals := 0 }) (pc_t_X11_changes dC dI sz h0 v0 v2 v3 v5 v6 v7 v8 v9 v10 v12 v13 v15 ts lf ar ct) (qc_t_X11_changes dC dI h0 v0 v2 v3 v5 v6 v7 v8 v9 v10 v12 v13 v15 ts lf ar ct (va_A (cs_t_X11_changes h0 v0 v2 v3 v5 v6 v7 v8 v9 v10 v12 v13 v15 ts lf ar ct) sz)) 0 0 (va_A (cs_t_X11_changes h0 v0 v2 v3 v5 v6 v7 v8 v9 v10 v12 v13 v15 ts lf ar ct) sz) := by
  refine Met.ofW (cc := cX11_changes) (maxL := 1) (ret := (some .int)) (by decide) rfl ?_
  intro p e s m args below meth c s₁ B hml hv
  obtain ⟨rfl, hsz, hP, hK, hD0⟩ := hv
  have hx := B.exec
  have hb := B.bytes
  have hr := B.returns
  have hts := atoms_spec (ws := (wsOf yX11_changes cX11_changes 1 (some .int))) B.pre
  have hown : s.vm.findClass RX11 = some m.cls := findClass_of_methodNamed B.named
  have hlocks := B.notSynchronized
  subst hsz
  have hD := hD0.self (sz := s.heap.size)
  generalize hAe : va_A (cs_t_X11_changes h0 v0 v2 v3 v5 v6 v7 v8 v9 v10 v12 v13 v15 ts lf ar ct) s.heap.size = A at hD ⊢
  have hA : ∀ q : Nat, s.heap.size ≤ q → A q := fun q h => by rw [← hAe]; exact Or.inr h
  have hS : va_S A s.heap s.heap [] := va_S.rf
  have hP : va_P (dC, dI) vwCl [(h0, .inr (12, [v0, .int ts, v2, v3, .int lf, v5, v6, v7, v8, v9, v10, .int ar, v12, v13, .int ct, v15]))] s.heap := hP
  have hl := lv_entry ([.ref h0]) (n := 1) (Nat.le_of_ble_eq_true rfl)
  rw [lg_entry_eq]
  generalize (lg_sl ([.ref h0]) ++ List.replicate (1 - (lg_sl ([.ref h0])).length) Slot.unset).toArray = ls at hl ⊢
  have hl : lv_has ls 1 [(0, .ref h0)] := hl
  refine lv_aload_n hx hb dX11_changes_0 rfl (lv_at hl 0 rfl) ?_
  refine va_get (D := (dC, dI)) (ci := 12) (v := .int ct) (C := RX11) (T := TX11) (N := 16) hx hb hts (fun w h => List.mem_cons_of_mem _ (uG_X11 w h)) hown hK hP 0 rfl rfl 14 (by decide) (hts _ (List.mem_cons_of_mem _ kw_442)) (fun _ h9 => h9) rfl dX11_changes_1 ?_
  have hP9 := hP.sub (ws' := [(h0, .inr (12, [v0, .int ts, v2, v3, .int lf, v5, v6, v7, v8, v9, v10, .int ar, v12, v13, .int ct, v15]))]) [0] rfl
  have hD9 := hD.sub (ws' := [(h0, .inr (12, [v0, .int ts, v2, v3, .int lf, v5, v6, v7, v8, v9, v10, .int ar, v12, v13, .int ct, v15]))]) [0] (by decide) rfl
  have hK9 := hK.sub (tys' := []) [] rfl
  exact W.iret (v := ct) hx hb hr (fun t_ ht hW => ⟨⟨ct, (), rfl, rfl, by rw [ht]; exact hP9, va_K.moved hW.alike hK9, hD9⟩, hS.F ht⟩) hS.2.2 dX11_changes_4
theorem dX11_rows_0 : decode cX11_rows 0 = .ok (.aload_n 0, 1) := by decide +kernel
theorem dX11_rows_1 : decode cX11_rows 1 = .ok (.getfield 162, 3) := by decide +kernel
theorem dX11_rows_4 : decode cX11_rows 4 = .ok (.ireturn, 1) := by decide +kernel
abbrev cs_t_X11_rows (h0 : Nat) (v0 v2 v3 v5 v6 v7 v8 v9 v10 v12 v13 v15 : Value) (ts lf ar ct : Int32) : va_W := [(h0, .inr (12, [v0, .int ts, v2, v3, .int lf, v5, v6, v7, v8, v9, v10, .int ar, v12, v13, .int ct, v15]))]
abbrev pc_t_X11_rows (dC : Nat → ClassId) (dI : Nat → Nat → Nat) (sz : Nat) (h0 : Nat) (v0 v2 v3 v5 v6 v7 v8 v9 v10 v12 v13 v15 : Value) (ts lf ar ct : Int32) : Array Value → State → Prop := va_Pc [.ref h0] (fun U => U.heap.size = sz ∧ va_P (dC, dI) vwCl [(h0, .inr (12, [v0, .int ts, v2, v3, .int lf, v5, v6, v7, v8, v9, v10, .int ar, v12, v13, .int ct, v15]))] U.heap ∧ va_K (dC, dI) vwCl [] U ∧ va_D (fun _ => True) [(h0, .inr (12, [v0, .int ts, v2, v3, .int lf, v5, v6, v7, v8, v9, v10, .int ar, v12, v13, .int ct, v15]))])
abbrev qc_t_X11_rows (dC : Nat → ClassId) (dI : Nat → Nat → Nat) (h0 : Nat) (v0 v2 v3 v5 v6 v7 v8 v9 v10 v12 v13 v15 : Value) (ts lf ar ct : Int32) (A : Nat → Prop) : Array Value → State → Outcome → State → Prop := va_Qi (fun (r : Int32) (u : Unit) => match u with | _ => r = ar) (fun (u : Unit) t_ => match u with | _ => va_P (dC, dI) vwCl [(h0, .inr (12, [v0, .int ts, v2, v3, .int lf, v5, v6, v7, v8, v9, v10, .int ar, v12, v13, .int ct, v15]))] t_.heap ∧ va_K (dC, dI) vwCl [] t_ ∧ va_D A [(h0, .inr (12, [v0, .int ts, v2, v3, .int lf, v5, v6, v7, v8, v9, v10, .int ar, v12, v13, .int ct, v15]))]) A
set_option maxHeartbeats 4000000 in
set_option maxRecDepth 100000 in
theorem t_X11_rows (l : Launch) (dC : Nat → ClassId) (dI : Nat → Nat → Nat) (sz : Nat) (h0 : Nat) (v0 v2 v3 v5 v6 v7 v8 v9 v10 v12 v13 v15 : Value) (ts lf ar ct : Int32)  : Met l yX11_rows (wsOf yX11_rows cX11_rows 1 (some .int)) ({ frames := 0, cells := 0, slots := 0, locals := 0 }) (pc_t_X11_rows dC dI sz h0 v0 v2 v3 v5 v6 v7 v8 v9 v10 v12 v13 v15 ts lf ar ct) (qc_t_X11_rows dC dI h0 v0 v2 v3 v5 v6 v7 v8 v9 v10 v12 v13 v15 ts lf ar ct (va_A (cs_t_X11_rows h0 v0 v2 v3 v5 v6 v7 v8 v9 v10 v12 v13 v15 ts lf ar ct) sz)) 0 0 (va_A (cs_t_X11_rows h0 v0 v2 v3 v5 v6 v7 v8 v9 v10 v12 v13 v15 ts lf ar ct) sz) := by
  refine Met.ofW (cc := cX11_rows) (maxL := 1) (ret := (some .int)) (by decide) rfl ?_
  intro p e s m args below meth c s₁ B hml hv
  obtain ⟨rfl, hsz, hP, hK, hD0⟩ := hv
  have hx := B.exec
  have hb := B.bytes
  have hr := B.returns
  have hts := atoms_spec (ws := (wsOf yX11_rows cX11_rows 1 (some .int))) B.pre
  have hown : s.vm.findClass RX11 = some m.cls := findClass_of_methodNamed B.named
  have hlocks := B.notSynchronized
  subst hsz
  have hD := hD0.self (sz := s.heap.size)
  generalize hAe : va_A (cs_t_X11_rows h0 v0 v2 v3 v5 v6 v7 v8 v9 v10 v12 v13 v15 ts lf ar ct) s.heap.size = A at hD ⊢
  have hA : ∀ q : Nat, s.heap.size ≤ q → A q := fun q h => by rw [← hAe]; exact Or.inr h
  have hS : va_S A s.heap s.heap [] := va_S.rf
  have hP : va_P (dC, dI) vwCl [(h0, .inr (12, [v0, .int ts, v2, v3, .int lf, v5, v6, v7, v8, v9, v10, .int ar, v12, v13, .int ct, v15]))] s.heap := hP
  have hl := lv_entry ([.ref h0]) (n := 1) (Nat.le_of_ble_eq_true rfl)
  rw [lg_entry_eq]
  generalize (lg_sl ([.ref h0]) ++ List.replicate (1 - (lg_sl ([.ref h0])).length) Slot.unset).toArray = ls at hl ⊢
  have hl : lv_has ls 1 [(0, .ref h0)] := hl
  refine lv_aload_n hx hb dX11_rows_0 rfl (lv_at hl 0 rfl) ?_
  refine va_get (D := (dC, dI)) (ci := 12) (v := .int ar) (C := RX11) (T := TX11) (N := 16) hx hb hts (fun w h => List.mem_cons_of_mem _ (uG_X11 w h)) hown hK hP 0 rfl rfl 11 (by decide) (hts _ (List.mem_cons_of_mem _ kw_439)) (fun _ h9 => h9) rfl dX11_rows_1 ?_
  have hP9 := hP.sub (ws' := [(h0, .inr (12, [v0, .int ts, v2, v3, .int lf, v5, v6, v7, v8, v9, v10, .int ar, v12, v13, .int ct, v15]))]) [0] rfl
  have hD9 := hD.sub (ws' := [(h0, .inr (12, [v0, .int ts, v2, v3, .int lf, v5, v6, v7, v8, v9, v10, .int ar, v12, v13, .int ct, v15]))]) [0] (by decide) rfl
  have hK9 := hK.sub (tys' := []) [] rfl
  exact W.iret (v := ar) hx hb hr (fun t_ ht hW => ⟨⟨ar, (), rfl, rfl, by rw [ht]; exact hP9, va_K.moved hW.alike hK9, hD9⟩, hS.F ht⟩) hS.2.2 dX11_rows_4
theorem dX12_fault_0 : decode cX12_fault 0 = .ok (.aload_n 0, 1) := by decide +kernel
theorem dX12_fault_1 : decode cX12_fault 1 = .ok (.getfield 581, 3) := by decide +kernel
theorem dX12_fault_4 : decode cX12_fault 4 = .ok (.ireturn, 1) := by decide +kernel
abbrev cs_t_X12_fault (h0 : Nat) (a : Nat → Nat) (f : Nat → Int32) (w : Int64) : va_W := [(h0, .inr (13, moF a f w))]
abbrev pc_t_X12_fault (dC : Nat → ClassId) (dI : Nat → Nat → Nat) (sz : Nat) (h0 : Nat) (a : Nat → Nat) (f : Nat → Int32) (w : Int64) : Array Value → State → Prop := va_Pc [.ref h0] (fun U => U.heap.size = sz ∧ va_P (dC, dI) vwCl [(h0, .inr (13, moF a f w))] U.heap ∧ va_K (dC, dI) vwCl [] U ∧ va_D (fun _ => True) [(h0, .inr (13, moF a f w))])
abbrev qc_t_X12_fault (dC : Nat → ClassId) (dI : Nat → Nat → Nat) (h0 : Nat) (a : Nat → Nat) (f : Nat → Int32) (w : Int64) (A : Nat → Prop) : Array Value → State → Outcome → State → Prop := va_Qi (fun (r : Int32) (u : Unit) => match u with | _ => r = f 82) (fun (u : Unit) t_ => match u with | _ => va_P (dC, dI) vwCl [(h0, .inr (13, moF a f w))] t_.heap ∧ va_K (dC, dI) vwCl [] t_ ∧ va_D A [(h0, .inr (13, moF a f w))]) A
set_option maxHeartbeats 4000000 in
set_option maxRecDepth 100000 in
theorem t_X12_fault (l : Launch) (dC : Nat → ClassId) (dI : Nat → Nat → Nat) (sz : Nat) (h0 : Nat) (a : Nat → Nat) (f : Nat → Int32) (w : Int64)  : Met l yX12_fault (wsOf yX12_fault cX12_fault 1 (some .int)) ({ frames := 0, cells := 0, slots := 0, locals := 0 }) (pc_t_X12_fault dC dI sz h0 a f w) (qc_t_X12_fault dC dI h0 a f w (va_A (cs_t_X12_fault h0 a f w) sz)) 0 0 (va_A (cs_t_X12_fault h0 a f w) sz) := by
  refine Met.ofW (cc := cX12_fault) (maxL := 1) (ret := (some .int)) (by decide) rfl ?_
  intro p e s m args below meth c s₁ B hml hv
  obtain ⟨rfl, hsz, hP, hK, hD0⟩ := hv
  have hx := B.exec
  have hb := B.bytes
  have hr := B.returns
  have hts := atoms_spec (ws := (wsOf yX12_fault cX12_fault 1 (some .int))) B.pre
  have hown : s.vm.findClass RX12 = some m.cls := findClass_of_methodNamed B.named
  have hlocks := B.notSynchronized
  subst hsz
  have hD := hD0.self (sz := s.heap.size)
  generalize hAe : va_A (cs_t_X12_fault h0 a f w) s.heap.size = A at hD ⊢
  have hA : ∀ q : Nat, s.heap.size ≤ q → A q := fun q h => by rw [← hAe]; exact Or.inr h
  have hS : va_S A s.heap s.heap [] := va_S.rf
  have hP : va_P (dC, dI) vwCl [(h0, .inr (13, moF a f w))] s.heap := hP
  have hl := lv_entry ([.ref h0]) (n := 1) (Nat.le_of_ble_eq_true rfl)
  rw [lg_entry_eq]
  generalize (lg_sl ([.ref h0]) ++ List.replicate (1 - (lg_sl ([.ref h0])).length) Slot.unset).toArray = ls at hl ⊢
  have hl : lv_has ls 1 [(0, .ref h0)] := hl
  refine lv_aload_n hx hb dX12_fault_0 rfl (lv_at hl 0 rfl) ?_
  refine va_get (D := (dC, dI)) (ci := 13) (v := .int (f 82)) (C := RX12) (T := TX12) (N := 115) hx hb hts (fun w h => List.mem_cons_of_mem _ (uG_X12 w h)) hown hK hP 0 rfl rfl 82 (by decide) (hts _ (List.mem_cons_of_mem _ kw_1773)) (fun _ h9 => h9) rfl dX12_fault_1 ?_
  have hP9 := hP.sub (ws' := [(h0, .inr (13, moF a f w))]) [0] rfl
  have hD9 := hD.sub (ws' := [(h0, .inr (13, moF a f w))]) [0] (by decide) rfl
  have hK9 := hK.sub (tys' := []) [] rfl
  exact W.iret (v := (f 82)) hx hb hr (fun t_ ht hW => ⟨⟨(f 82), (), rfl, rfl, by rw [ht]; exact hP9, va_K.moved hW.alike hK9, hD9⟩, hS.F ht⟩) hS.2.2 dX12_fault_4
theorem dX12_changes_0 : decode cX12_changes 0 = .ok (.aload_n 0, 1) := by decide +kernel
theorem dX12_changes_1 : decode cX12_changes 1 = .ok (.getfield 271, 3) := by decide +kernel
theorem dX12_changes_4 : decode cX12_changes 4 = .ok (.ireturn, 1) := by decide +kernel
abbrev cs_t_X12_changes (h0 : Nat) (a : Nat → Nat) (f : Nat → Int32) (w : Int64) : va_W := [(h0, .inr (13, moF a f w))]
abbrev pc_t_X12_changes (dC : Nat → ClassId) (dI : Nat → Nat → Nat) (sz : Nat) (h0 : Nat) (a : Nat → Nat) (f : Nat → Int32) (w : Int64) : Array Value → State → Prop := va_Pc [.ref h0] (fun U => U.heap.size = sz ∧ va_P (dC, dI) vwCl [(h0, .inr (13, moF a f w))] U.heap ∧ va_K (dC, dI) vwCl [] U ∧ va_D (fun _ => True) [(h0, .inr (13, moF a f w))])
abbrev qc_t_X12_changes (dC : Nat → ClassId) (dI : Nat → Nat → Nat) (h0 : Nat) (a : Nat → Nat) (f : Nat → Int32) (w : Int64) (A : Nat → Prop) : Array Value → State → Outcome → State → Prop := va_Qi (fun (r : Int32) (u : Unit) => match u with | _ => r = f 110) (fun (u : Unit) t_ => match u with | _ => va_P (dC, dI) vwCl [(h0, .inr (13, moF a f w))] t_.heap ∧ va_K (dC, dI) vwCl [] t_ ∧ va_D A [(h0, .inr (13, moF a f w))]) A
set_option maxHeartbeats 4000000 in
set_option maxRecDepth 100000 in
theorem t_X12_changes (l : Launch) (dC : Nat → ClassId) (dI : Nat → Nat → Nat) (sz : Nat) (h0 : Nat) (a : Nat → Nat) (f : Nat → Int32) (w : Int64)  : Met l yX12_changes (wsOf yX12_changes cX12_changes 1 (some .int)) ({ frames := 0, cells := 0, slots := 0, locals := 0 }) (pc_t_X12_changes dC dI sz h0 a f w) (qc_t_X12_changes dC dI h0 a f w (va_A (cs_t_X12_changes h0 a f w) sz)) 0 0 (va_A (cs_t_X12_changes h0 a f w) sz) := by
  refine Met.ofW (cc := cX12_changes) (maxL := 1) (ret := (some .int)) (by decide) rfl ?_
  intro p e s m args below meth c s₁ B hml hv
  obtain ⟨rfl, hsz, hP, hK, hD0⟩ := hv
  have hx := B.exec
  have hb := B.bytes
  have hr := B.returns
  have hts := atoms_spec (ws := (wsOf yX12_changes cX12_changes 1 (some .int))) B.pre
  have hown : s.vm.findClass RX12 = some m.cls := findClass_of_methodNamed B.named
  have hlocks := B.notSynchronized
  subst hsz
  have hD := hD0.self (sz := s.heap.size)
  generalize hAe : va_A (cs_t_X12_changes h0 a f w) s.heap.size = A at hD ⊢
  have hA : ∀ q : Nat, s.heap.size ≤ q → A q := fun q h => by rw [← hAe]; exact Or.inr h
  have hS : va_S A s.heap s.heap [] := va_S.rf
  have hP : va_P (dC, dI) vwCl [(h0, .inr (13, moF a f w))] s.heap := hP
  have hl := lv_entry ([.ref h0]) (n := 1) (Nat.le_of_ble_eq_true rfl)
  rw [lg_entry_eq]
  generalize (lg_sl ([.ref h0]) ++ List.replicate (1 - (lg_sl ([.ref h0])).length) Slot.unset).toArray = ls at hl ⊢
  have hl : lv_has ls 1 [(0, .ref h0)] := hl
  refine lv_aload_n hx hb dX12_changes_0 rfl (lv_at hl 0 rfl) ?_
  refine va_get (D := (dC, dI)) (ci := 13) (v := .int (f 110)) (C := RX12) (T := TX12) (N := 115) hx hb hts (fun w h => List.mem_cons_of_mem _ (uG_X12 w h)) hown hK hP 0 rfl rfl 110 (by decide) (hts _ (List.mem_cons_of_mem _ kw_1801)) (fun _ h9 => h9) rfl dX12_changes_1 ?_
  have hP9 := hP.sub (ws' := [(h0, .inr (13, moF a f w))]) [0] rfl
  have hD9 := hD.sub (ws' := [(h0, .inr (13, moF a f w))]) [0] (by decide) rfl
  have hK9 := hK.sub (tys' := []) [] rfl
  exact W.iret (v := (f 110)) hx hb hr (fun t_ ht hW => ⟨⟨(f 110), (), rfl, rfl, by rw [ht]; exact hP9, va_K.moved hW.alike hK9, hD9⟩, hS.F ht⟩) hS.2.2 dX12_changes_4
theorem dX11_cut_0 : decode cX11_cut 0 = .ok (.iload_n 1, 1) := by decide +kernel
theorem dX11_cut_1 : decode cX11_cut 1 = .ok (.ifCond .lt 11, 3) := by decide +kernel
theorem dX11_cut_4 : decode cX11_cut 4 = .ok (.iload_n 1, 1) := by decide +kernel
theorem dX11_cut_5 : decode cX11_cut 5 = .ok (.aload_n 0, 1) := by decide +kernel
theorem dX11_cut_6 : decode cX11_cut 6 = .ok (.getfield 59, 3) := by decide +kernel
theorem dX11_cut_9 : decode cX11_cut 9 = .ok (.if_icmp .le 5, 3) := by decide +kernel
theorem dX11_cut_12 : decode cX11_cut 12 = .ok (.iconst (-1), 1) := by decide +kernel
theorem dX11_cut_13 : decode cX11_cut 13 = .ok (.ireturn, 1) := by decide +kernel
theorem dX11_cut_14 : decode cX11_cut 14 = .ok (.aload_n 0, 1) := by decide +kernel
theorem dX11_cut_15 : decode cX11_cut 15 = .ok (.getfield 59, 3) := by decide +kernel
theorem dX11_cut_18 : decode cX11_cut 18 = .ok (.iload_n 1, 1) := by decide +kernel
theorem dX11_cut_19 : decode cX11_cut 19 = .ok (.isub, 1) := by decide +kernel
theorem dX11_cut_20 : decode cX11_cut 20 = .ok (.istore_n 2, 1) := by decide +kernel
theorem dX11_cut_21 : decode cX11_cut 21 = .ok (.aload_n 0, 1) := by decide +kernel
theorem dX11_cut_22 : decode cX11_cut 22 = .ok (.iload_n 1, 1) := by decide +kernel
theorem dX11_cut_23 : decode cX11_cut 23 = .ok (.putfield 59, 3) := by decide +kernel
theorem dX11_cut_26 : decode cX11_cut 26 = .ok (.iload_n 2, 1) := by decide +kernel
theorem dX11_cut_27 : decode cX11_cut 27 = .ok (.ireturn, 1) := by decide +kernel
abbrev cs_t_X11_cut (h0 : Nat) (v0 v2 v3 v5 v6 v7 v8 v9 v10 v12 v13 v15 : Value) (ts lf ar ct : Int32) (n : Int32) : va_W := [(h0, .inr (12, [v0, .int ts, v2, v3, .int lf, v5, v6, v7, v8, v9, v10, .int ar, v12, v13, .int ct, v15]))]
abbrev pc_t_X11_cut (dC : Nat → ClassId) (dI : Nat → Nat → Nat) (sz : Nat) (h0 : Nat) (v0 v2 v3 v5 v6 v7 v8 v9 v10 v12 v13 v15 : Value) (ts lf ar ct : Int32) (n : Int32) : Array Value → State → Prop := va_Pc [.ref h0, .int n] (fun U => U.heap.size = sz ∧ va_P (dC, dI) vwCl [(h0, .inr (12, [v0, .int ts, v2, v3, .int lf, v5, v6, v7, v8, v9, v10, .int ar, v12, v13, .int ct, v15]))] U.heap ∧ va_K (dC, dI) vwCl [] U ∧ va_D (fun _ => True) [(h0, .inr (12, [v0, .int ts, v2, v3, .int lf, v5, v6, v7, v8, v9, v10, .int ar, v12, v13, .int ct, v15]))])
abbrev qc_t_X11_cut (dC : Nat → ClassId) (dI : Nat → Nat → Nat) (h0 : Nat) (v0 v2 v3 v5 v6 v7 v8 v9 v10 v12 v13 v15 : Value) (ts lf ar ct : Int32) (n : Int32) (A : Nat → Prop) : Array Value → State → Outcome → State → Prop := va_Qi (fun (r : Int32) (u : Int32) => match u with | u => (r, u) = cutF ts n) (fun (u : Int32) t_ => match u with | u => va_P (dC, dI) vwCl [(h0, .inr (12, [v0, .int u, v2, v3, .int lf, v5, v6, v7, v8, v9, v10, .int ar, v12, v13, .int ct, v15]))] t_.heap ∧ va_K (dC, dI) vwCl [] t_ ∧ va_D A [(h0, .inr (12, [v0, .int u, v2, v3, .int lf, v5, v6, v7, v8, v9, v10, .int ar, v12, v13, .int ct, v15]))]) A
set_option maxHeartbeats 4000000 in
set_option maxRecDepth 100000 in
theorem t_X11_cut (l : Launch) (dC : Nat → ClassId) (dI : Nat → Nat → Nat) (sz : Nat) (h0 : Nat) (v0 v2 v3 v5 v6 v7 v8 v9 v10 v12 v13 v15 : Value) (ts lf ar ct : Int32) (n : Int32)  : Met l yX11_cut (wsOf yX11_cut cX11_cut 3 (some .int)) ({ frames := 0, cells := 0, slots := 0, locals := 0 }) (pc_t_X11_cut dC dI sz h0 v0 v2 v3 v5 v6 v7 v8 v9 v10 v12 v13 v15 ts lf ar ct n) (qc_t_X11_cut dC dI h0 v0 v2 v3 v5 v6 v7 v8 v9 v10 v12 v13 v15 ts lf ar ct n (va_A (cs_t_X11_cut h0 v0 v2 v3 v5 v6 v7 v8 v9 v10 v12 v13 v15 ts lf ar ct n) sz)) 0 0 (va_A (cs_t_X11_cut h0 v0 v2 v3 v5 v6 v7 v8 v9 v10 v12 v13 v15 ts lf ar ct n) sz) := by
  refine Met.ofW (cc := cX11_cut) (maxL := 3) (ret := (some .int)) (by decide) rfl ?_
  intro p e s m args below meth c s₁ B hml hv
  obtain ⟨rfl, hsz, hP, hK, hD0⟩ := hv
  have hx := B.exec
  have hb := B.bytes
  have hr := B.returns
  have hts := atoms_spec (ws := (wsOf yX11_cut cX11_cut 3 (some .int))) B.pre
  have hown : s.vm.findClass RX11 = some m.cls := findClass_of_methodNamed B.named
  have hlocks := B.notSynchronized
  subst hsz
  have hD := hD0.self (sz := s.heap.size)
  generalize hAe : va_A (cs_t_X11_cut h0 v0 v2 v3 v5 v6 v7 v8 v9 v10 v12 v13 v15 ts lf ar ct n) s.heap.size = A at hD ⊢
  have hA : ∀ q : Nat, s.heap.size ≤ q → A q := fun q h => by rw [← hAe]; exact Or.inr h
  have hS : va_S A s.heap s.heap [] := va_S.rf
  have hP : va_P (dC, dI) vwCl [(h0, .inr (12, [v0, .int ts, v2, v3, .int lf, v5, v6, v7, v8, v9, v10, .int ar, v12, v13, .int ct, v15]))] s.heap := hP
  have hl := lv_entry ([.ref h0, .int n]) (n := 3) (Nat.le_of_ble_eq_true rfl)
  rw [lg_entry_eq]
  generalize (lg_sl ([.ref h0, .int n]) ++ List.replicate (3 - (lg_sl ([.ref h0, .int n])).length) Slot.unset).toArray = ls at hl ⊢
  have hl : lv_has ls 3 [(0, .ref h0), (1, .int n)] := hl
  refine lv_iload_n hx hb dX11_cut_0 rfl (lv_at hl 1 rfl) ?_
  refine lv_if_lt (tgt := 12) hx hb dX11_cut_1 (by decide) (fun c_1 => ?_) (fun c_1 => ?_)
  · skip
    refine lv_iconst (v := (-1)) hx hb dX11_cut_12 (by decide) ?_
    have hP9 := hP.sub (ws' := [(h0, .inr (12, [v0, .int ts, v2, v3, .int lf, v5, v6, v7, v8, v9, v10, .int ar, v12, v13, .int ct, v15]))]) [0] rfl
    have hD9 := hD.sub (ws' := [(h0, .inr (12, [v0, .int ts, v2, v3, .int lf, v5, v6, v7, v8, v9, v10, .int ar, v12, v13, .int ct, v15]))]) [0] (by decide) rfl
    have hK9 := hK.sub (tys' := []) [] rfl
    exact W.iret (v := (-1)) hx hb hr (fun t_ ht hW => ⟨⟨(-1), ts, rfl, by unfold cutF; rw [if_pos c_1], by rw [ht]; exact hP9, va_K.moved hW.alike hK9, hD9⟩, hS.F ht⟩) hS.2.2 dX11_cut_13
  · skip
    refine lv_iload_n hx hb dX11_cut_4 rfl (lv_at hl 1 rfl) ?_
    refine lv_aload_n hx hb dX11_cut_5 rfl (lv_at hl 0 rfl) ?_
    refine va_get (D := (dC, dI)) (ci := 12) (v := .int ts) (C := RX11) (T := TX11) (N := 16) hx hb hts (fun w h => List.mem_cons_of_mem _ (uG_X11 w h)) hown hK hP 0 rfl rfl 1 (by decide) (hts _ (List.mem_cons_of_mem _ kw_429)) (fun _ h9 => h9) rfl dX11_cut_6 ?_
    refine lv_icmp_le (tgt := 14) hx hb dX11_cut_9 (by decide) (fun c_2 => ?_) (fun c_2 => ?_)
    · skip
      refine lv_aload_n hx hb dX11_cut_14 rfl (lv_at hl 0 rfl) ?_
      refine va_get (D := (dC, dI)) (ci := 12) (v := .int ts) (C := RX11) (T := TX11) (N := 16) hx hb hts (fun w h => List.mem_cons_of_mem _ (uG_X11 w h)) hown hK hP 0 rfl rfl 1 (by decide) (hts _ (List.mem_cons_of_mem _ kw_429)) (fun _ h9 => h9) rfl dX11_cut_15 ?_
      refine lv_iload_n hx hb dX11_cut_18 rfl (lv_at hl 1 rfl) ?_
      refine lv_isub hx hb dX11_cut_19 ?_
      refine lv_istore_n (lv' := [(2, .int (ts - n)), (0, .ref h0), (1, .int n)]) hx hb dX11_cut_20 rfl hl (by decide) rfl (fun ls hl => ?_)
      refine lv_aload_n hx hb dX11_cut_21 rfl (lv_at hl 1 rfl) ?_
      refine lv_iload_n hx hb dX11_cut_22 rfl (lv_at hl 2 rfl) ?_
      refine va_put (D := (dC, dI)) (ci := 12) (v := .int n) (ty := .int) (C := RX11) (T := TX11) (N := 16) hx hb hts (fun w h => List.mem_cons_of_mem _ (uG_X11 w h)) tyX11 tyX11_ok nmX11 hown hK hP hD hS 0 rfl rfl 1 (by decide) (hts _ (List.mem_cons_of_mem _ kw_429)) (fun _ h9 => h9) rfl (by decide +kernel) rfl rfl (Nat.le_of_ble_eq_true rfl) dX11_cut_23 (fun H locs hP hD hS => ?_)
      have hP : va_P (dC, dI) vwCl [(h0, .inr (12, [v0, .int n, v2, v3, .int lf, v5, v6, v7, v8, v9, v10, .int ar, v12, v13, .int ct, v15]))] H := hP
      have hD : va_D A [(h0, .inr (12, [v0, .int n, v2, v3, .int lf, v5, v6, v7, v8, v9, v10, .int ar, v12, v13, .int ct, v15]))] := hD
      refine lv_iload_n hx hb dX11_cut_26 rfl (lv_at hl 0 rfl) ?_
      have hP9 := hP.sub (ws' := [(h0, .inr (12, [v0, .int n, v2, v3, .int lf, v5, v6, v7, v8, v9, v10, .int ar, v12, v13, .int ct, v15]))]) [0] rfl
      have hD9 := hD.sub (ws' := [(h0, .inr (12, [v0, .int n, v2, v3, .int lf, v5, v6, v7, v8, v9, v10, .int ar, v12, v13, .int ct, v15]))]) [0] (by decide) rfl
      have hK9 := hK.sub (tys' := []) [] rfl
      exact W.iret (v := (ts - n)) hx hb hr (fun t_ ht hW => ⟨⟨(ts - n), n, rfl, by unfold cutF; rw [if_neg c_1]; rw [if_pos c_2], by rw [ht]; exact hP9, va_K.moved hW.alike hK9, hD9⟩, hS.F ht⟩) hS.2.2 dX11_cut_27
    · skip
      refine lv_iconst (v := (-1)) hx hb dX11_cut_12 (by decide) ?_
      have hP9 := hP.sub (ws' := [(h0, .inr (12, [v0, .int ts, v2, v3, .int lf, v5, v6, v7, v8, v9, v10, .int ar, v12, v13, .int ct, v15]))]) [0] rfl
      have hD9 := hD.sub (ws' := [(h0, .inr (12, [v0, .int ts, v2, v3, .int lf, v5, v6, v7, v8, v9, v10, .int ar, v12, v13, .int ct, v15]))]) [0] (by decide) rfl
      have hK9 := hK.sub (tys' := []) [] rfl
      exact W.iret (v := (-1)) hx hb hr (fun t_ ht hW => ⟨⟨(-1), ts, rfl, by unfold cutF; rw [if_neg c_1]; rw [if_neg c_2], by rw [ht]; exact hP9, va_K.moved hW.alike hK9, hD9⟩, hS.F ht⟩) hS.2.2 dX11_cut_13
theorem dX12_cut_0 : decode cX12_cut 0 = .ok (.iload_n 1, 1) := by decide +kernel
theorem dX12_cut_1 : decode cX12_cut 1 = .ok (.ifCond .lt 11, 3) := by decide +kernel
theorem dX12_cut_4 : decode cX12_cut 4 = .ok (.iload_n 1, 1) := by decide +kernel
theorem dX12_cut_5 : decode cX12_cut 5 = .ok (.aload_n 0, 1) := by decide +kernel
theorem dX12_cut_6 : decode cX12_cut 6 = .ok (.getfield 253, 3) := by decide +kernel
theorem dX12_cut_9 : decode cX12_cut 9 = .ok (.if_icmp .le 5, 3) := by decide +kernel
theorem dX12_cut_12 : decode cX12_cut 12 = .ok (.iconst (-1), 1) := by decide +kernel
theorem dX12_cut_13 : decode cX12_cut 13 = .ok (.ireturn, 1) := by decide +kernel
theorem dX12_cut_14 : decode cX12_cut 14 = .ok (.aload_n 0, 1) := by decide +kernel
theorem dX12_cut_15 : decode cX12_cut 15 = .ok (.getfield 253, 3) := by decide +kernel
theorem dX12_cut_18 : decode cX12_cut 18 = .ok (.iload_n 1, 1) := by decide +kernel
theorem dX12_cut_19 : decode cX12_cut 19 = .ok (.isub, 1) := by decide +kernel
theorem dX12_cut_20 : decode cX12_cut 20 = .ok (.istore_n 2, 1) := by decide +kernel
theorem dX12_cut_21 : decode cX12_cut 21 = .ok (.aload_n 0, 1) := by decide +kernel
theorem dX12_cut_22 : decode cX12_cut 22 = .ok (.iload_n 1, 1) := by decide +kernel
theorem dX12_cut_23 : decode cX12_cut 23 = .ok (.putfield 253, 3) := by decide +kernel
theorem dX12_cut_26 : decode cX12_cut 26 = .ok (.iload_n 2, 1) := by decide +kernel
theorem dX12_cut_27 : decode cX12_cut 27 = .ok (.ireturn, 1) := by decide +kernel
abbrev cs_t_X12_cut (h0 : Nat) (a : Nat → Nat) (f : Nat → Int32) (w : Int64) (n : Int32) : va_W := [(h0, .inr (13, moF a f w))]
abbrev pc_t_X12_cut (dC : Nat → ClassId) (dI : Nat → Nat → Nat) (sz : Nat) (h0 : Nat) (a : Nat → Nat) (f : Nat → Int32) (w : Int64) (n : Int32) : Array Value → State → Prop := va_Pc [.ref h0, .int n] (fun U => U.heap.size = sz ∧ va_P (dC, dI) vwCl [(h0, .inr (13, moF a f w))] U.heap ∧ va_K (dC, dI) vwCl [] U ∧ va_D (fun _ => True) [(h0, .inr (13, moF a f w))])
abbrev qc_t_X12_cut (dC : Nat → ClassId) (dI : Nat → Nat → Nat) (h0 : Nat) (a : Nat → Nat) (f : Nat → Int32) (w : Int64) (n : Int32) (A : Nat → Prop) : Array Value → State → Outcome → State → Prop := va_Qi (fun (r : Int32) (u : Int32) => match u with | u => (r, u) = cutF (f 1) n) (fun (u : Int32) t_ => match u with | u => va_P (dC, dI) vwCl [(h0, .inr (13, moF a (upd f 1 u) w))] t_.heap ∧ va_K (dC, dI) vwCl [] t_ ∧ va_D A [(h0, .inr (13, moF a (upd f 1 u) w))]) A
set_option maxHeartbeats 4000000 in
set_option maxRecDepth 100000 in
theorem t_X12_cut (l : Launch) (dC : Nat → ClassId) (dI : Nat → Nat → Nat) (sz : Nat) (h0 : Nat) (a : Nat → Nat) (f : Nat → Int32) (w : Int64) (n : Int32)  : Met l yX12_cut (wsOf yX12_cut cX12_cut 3 (some .int)) ({ frames := 0, cells := 0, slots := 0, locals := 0 }) (pc_t_X12_cut dC dI sz h0 a f w n) (qc_t_X12_cut dC dI h0 a f w n (va_A (cs_t_X12_cut h0 a f w n) sz)) 0 0 (va_A (cs_t_X12_cut h0 a f w n) sz) := by
  refine Met.ofW (cc := cX12_cut) (maxL := 3) (ret := (some .int)) (by decide) rfl ?_
  intro p e s m args below meth c s₁ B hml hv
  obtain ⟨rfl, hsz, hP, hK, hD0⟩ := hv
  have hx := B.exec
  have hb := B.bytes
  have hr := B.returns
  have hts := atoms_spec (ws := (wsOf yX12_cut cX12_cut 3 (some .int))) B.pre
  have hown : s.vm.findClass RX12 = some m.cls := findClass_of_methodNamed B.named
  have hlocks := B.notSynchronized
  subst hsz
  have hD := hD0.self (sz := s.heap.size)
  generalize hAe : va_A (cs_t_X12_cut h0 a f w n) s.heap.size = A at hD ⊢
  have hA : ∀ q : Nat, s.heap.size ≤ q → A q := fun q h => by rw [← hAe]; exact Or.inr h
  have hS : va_S A s.heap s.heap [] := va_S.rf
  have hP : va_P (dC, dI) vwCl [(h0, .inr (13, moF a f w))] s.heap := hP
  have hl := lv_entry ([.ref h0, .int n]) (n := 3) (Nat.le_of_ble_eq_true rfl)
  rw [lg_entry_eq]
  generalize (lg_sl ([.ref h0, .int n]) ++ List.replicate (3 - (lg_sl ([.ref h0, .int n])).length) Slot.unset).toArray = ls at hl ⊢
  have hl : lv_has ls 3 [(0, .ref h0), (1, .int n)] := hl
  refine lv_iload_n hx hb dX12_cut_0 rfl (lv_at hl 1 rfl) ?_
  refine lv_if_lt (tgt := 12) hx hb dX12_cut_1 (by decide) (fun c_1 => ?_) (fun c_1 => ?_)
  · skip
    refine lv_iconst (v := (-1)) hx hb dX12_cut_12 (by decide) ?_
    have hP9 := hP.sub (ws' := [(h0, .inr (13, moF a (upd f 1 (f 1)) w))]) [0] rfl
    have hD9 := hD.sub (ws' := [(h0, .inr (13, moF a (upd f 1 (f 1)) w))]) [0] (by decide) rfl
    have hK9 := hK.sub (tys' := []) [] rfl
    exact W.iret (v := (-1)) hx hb hr (fun t_ ht hW => ⟨⟨(-1), (f 1), rfl, by unfold cutF; rw [if_pos c_1], by rw [ht]; exact hP9, va_K.moved hW.alike hK9, hD9⟩, hS.F ht⟩) hS.2.2 dX12_cut_13
  · skip
    refine lv_iload_n hx hb dX12_cut_4 rfl (lv_at hl 1 rfl) ?_
    refine lv_aload_n hx hb dX12_cut_5 rfl (lv_at hl 0 rfl) ?_
    refine va_get (D := (dC, dI)) (ci := 13) (v := .int (f 1)) (C := RX12) (T := TX12) (N := 115) hx hb hts (fun w h => List.mem_cons_of_mem _ (uG_X12 w h)) hown hK hP 0 rfl rfl 1 (by decide) (hts _ (List.mem_cons_of_mem _ kw_1692)) (fun _ h9 => h9) rfl dX12_cut_6 ?_
    refine lv_icmp_le (tgt := 14) hx hb dX12_cut_9 (by decide) (fun c_2 => ?_) (fun c_2 => ?_)
    · skip
      refine lv_aload_n hx hb dX12_cut_14 rfl (lv_at hl 0 rfl) ?_
      refine va_get (D := (dC, dI)) (ci := 13) (v := .int (f 1)) (C := RX12) (T := TX12) (N := 115) hx hb hts (fun w h => List.mem_cons_of_mem _ (uG_X12 w h)) hown hK hP 0 rfl rfl 1 (by decide) (hts _ (List.mem_cons_of_mem _ kw_1692)) (fun _ h9 => h9) rfl dX12_cut_15 ?_
      refine lv_iload_n hx hb dX12_cut_18 rfl (lv_at hl 1 rfl) ?_
      refine lv_isub hx hb dX12_cut_19 ?_
      refine lv_istore_n (lv' := [(2, .int ((f 1) - n)), (0, .ref h0), (1, .int n)]) hx hb dX12_cut_20 rfl hl (by decide) rfl (fun ls hl => ?_)
      refine lv_aload_n hx hb dX12_cut_21 rfl (lv_at hl 1 rfl) ?_
      refine lv_iload_n hx hb dX12_cut_22 rfl (lv_at hl 2 rfl) ?_
      refine va_put (D := (dC, dI)) (ci := 13) (v := .int n) (ty := .int) (C := RX12) (T := TX12) (N := 115) hx hb hts (fun w h => List.mem_cons_of_mem _ (uG_X12 w h)) tyX12 tyX12_ok nmX12 hown hK hP hD hS 0 rfl rfl 1 (by decide) (hts _ (List.mem_cons_of_mem _ kw_1692)) (fun _ h9 => h9) rfl (by decide +kernel) rfl rfl (Nat.le_of_ble_eq_true rfl) dX12_cut_23 (fun H locs hP hD hS => ?_)
      have hP : va_P (dC, dI) vwCl [(h0, .inr (13, moF a (upd f 1 n) w))] H := hP
      have hD : va_D A [(h0, .inr (13, moF a (upd f 1 n) w))] := hD
      refine lv_iload_n hx hb dX12_cut_26 rfl (lv_at hl 0 rfl) ?_
      have hP9 := hP.sub (ws' := [(h0, .inr (13, moF a (upd f 1 n) w))]) [0] rfl
      have hD9 := hD.sub (ws' := [(h0, .inr (13, moF a (upd f 1 n) w))]) [0] (by decide) rfl
      have hK9 := hK.sub (tys' := []) [] rfl
      exact W.iret (v := ((f 1) - n)) hx hb hr (fun t_ ht hW => ⟨⟨((f 1) - n), n, rfl, by unfold cutF; rw [if_neg c_1]; rw [if_pos c_2], by rw [ht]; exact hP9, va_K.moved hW.alike hK9, hD9⟩, hS.F ht⟩) hS.2.2 dX12_cut_27
    · skip
      refine lv_iconst (v := (-1)) hx hb dX12_cut_12 (by decide) ?_
      have hP9 := hP.sub (ws' := [(h0, .inr (13, moF a (upd f 1 (f 1)) w))]) [0] rfl
      have hD9 := hD.sub (ws' := [(h0, .inr (13, moF a (upd f 1 (f 1)) w))]) [0] (by decide) rfl
      have hK9 := hK.sub (tys' := []) [] rfl
      exact W.iret (v := (-1)) hx hb hr (fun t_ ht hW => ⟨⟨(-1), (f 1), rfl, by unfold cutF; rw [if_neg c_1]; rw [if_neg c_2], by rw [ht]; exact hP9, va_K.moved hW.alike hK9, hD9⟩, hS.F ht⟩) hS.2.2 dX12_cut_13

