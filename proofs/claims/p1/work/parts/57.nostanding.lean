theorem dX11_answer_0 : decode cX11_answer 0 = .ok (.aload_n 0, 1) := by decide +kernel
theorem dX11_answer_1 : decode cX11_answer 1 = .ok (.getfield 107, 3) := by decide +kernel
theorem dX11_answer_4 : decode cX11_answer 4 = .ok (.ifnull 10, 3) := by decide +kernel
theorem dX11_answer_14 : decode cX11_answer 14 = .ok (.return_, 1) := by decide +kernel
abbrev cs_t_X11_answer_0 (cB cI cJ cZ : ClassId) (h0 hQ : Nat) (v0 v3 v6 v7 v8 v9 v10 v12 v13 v15 : Value) (ts lf : Int32) (ct ar : Int32) (x : Int32) : va_W := [(h0, .inr (12, [v0, .int ts, .ref hQ, v3, .int lf, .null, v6, v7, v8, v9, v10, .int ar, v12, v13, .int ct, v15]))]
abbrev pc_t_X11_answer_0 (dC : Nat → ClassId) (dI : Nat → Nat → Nat) (sz : Nat) (cB cI cJ cZ : ClassId) (h0 hQ : Nat) (v0 v3 v6 v7 v8 v9 v10 v12 v13 v15 : Value) (ts lf : Int32) (ct ar : Int32) (x : Int32) : Array Value → State → Prop := va_Pc [.ref h0, .int x] (fun U => U.heap.size = sz ∧ va_P (dC, dI) vwCl [(h0, .inr (12, [v0, .int ts, .ref hQ, v3, .int lf, .null, v6, v7, v8, v9, v10, .int ar, v12, v13, .int ct, v15]))] U.heap ∧ va_K (dC, dI) vwCl [(cB, .byte), (cI, .int), (cJ, .long), (cZ, .boolean)] U ∧ va_D (fun _ => True) [(h0, .inr (12, [v0, .int ts, .ref hQ, v3, .int lf, .null, v6, v7, v8, v9, v10, .int ar, v12, v13, .int ct, v15]))])
abbrev qc_t_X11_answer_0 (dC : Nat → ClassId) (dI : Nat → Nat → Nat) (cB cI cJ cZ : ClassId) (h0 hQ : Nat) (v0 v3 v6 v7 v8 v9 v10 v12 v13 v15 : Value) (ts lf : Int32) (ct ar : Int32) (x : Int32) (A : Nat → Prop) : Array Value → State → Outcome → State → Prop := va_Qv (fun (u : Unit) => match u with | _ => True) (fun (u : Unit) t_ => match u with | _ => va_P (dC, dI) vwCl [(h0, .inr (12, [v0, .int ts, .ref hQ, v3, .int lf, .null, v6, v7, v8, v9, v10, .int ar, v12, v13, .int ct, v15]))] t_.heap ∧ va_K (dC, dI) vwCl [(cB, .byte), (cI, .int), (cJ, .long), (cZ, .boolean)] t_ ∧ va_D A [(h0, .inr (12, [v0, .int ts, .ref hQ, v3, .int lf, .null, v6, v7, v8, v9, v10, .int ar, v12, v13, .int ct, v15]))]) A
set_option maxHeartbeats 4000000 in
set_option maxRecDepth 100000 in
theorem t_X11_answer_0 (l : Launch) (dC : Nat → ClassId) (dI : Nat → Nat → Nat) (sz : Nat) (cB cI cJ cZ : ClassId) (h0 hQ : Nat) (v0 v3 v6 v7 v8 v9 v10 v12 v13 v15 : Value) (ts lf : Int32) (ct ar : Int32) (x : Int32)  : Met l yX11_answer (wsOf yX11_answer cX11_answer 4 none) ({ frames := 0, cells := 0, slots := 0, locals := 0 }) (pc_t_X11_answer_0 dC dI sz cB cI cJ cZ h0 hQ v0 v3 v6 v7 v8 v9 v10 v12 v13 v15 ts lf ct ar x) (qc_t_X11_answer_0 dC dI cB cI cJ cZ h0 hQ v0 v3 v6 v7 v8 v9 v10 v12 v13 v15 ts lf ct ar x (va_A (cs_t_X11_answer_0 cB cI cJ cZ h0 hQ v0 v3 v6 v7 v8 v9 v10 v12 v13 v15 ts lf ct ar x) sz)) 0 0 (va_A (cs_t_X11_answer_0 cB cI cJ cZ h0 hQ v0 v3 v6 v7 v8 v9 v10 v12 v13 v15 ts lf ct ar x) sz) := by
  refine Met.ofW (cc := cX11_answer) (maxL := 4) (ret := none) (by decide) rfl ?_
  intro p e s m args below meth c s₁ B hml hv
  obtain ⟨rfl, hsz, hP, hK, hD0⟩ := hv
  have hx := B.exec
  have hb := B.bytes
  have hr := B.returns
  have hts := atoms_spec (ws := (wsOf yX11_answer cX11_answer 4 none)) B.pre
  have hown : s.vm.findClass RX11 = some m.cls := findClass_of_methodNamed B.named
  have hlocks := B.notSynchronized
  subst hsz
  have hD := hD0.self (sz := s.heap.size)
  generalize hAe : va_A (cs_t_X11_answer_0 cB cI cJ cZ h0 hQ v0 v3 v6 v7 v8 v9 v10 v12 v13 v15 ts lf ct ar x) s.heap.size = A at hD ⊢
  have hA : ∀ q : Nat, s.heap.size ≤ q → A q := fun q h => by rw [← hAe]; exact Or.inr h
  have hS : va_S A s.heap s.heap [] := va_S.rf
  have hP : va_P (dC, dI) vwCl [(h0, .inr (12, [v0, .int ts, .ref hQ, v3, .int lf, .null, v6, v7, v8, v9, v10, .int ar, v12, v13, .int ct, v15]))] s.heap := hP
  have hl := lv_entry ([.ref h0, .int x]) (n := 4) (Nat.le_of_ble_eq_true rfl)
  rw [lg_entry_eq]
  generalize (lg_sl ([.ref h0, .int x]) ++ List.replicate (4 - (lg_sl ([.ref h0, .int x])).length) Slot.unset).toArray = ls at hl ⊢
  have hl : lv_has ls 4 [(0, .ref h0), (1, .int x)] := hl
  refine lv_aload_n hx hb dX11_answer_0 rfl (lv_at hl 0 rfl) ?_
  refine va_get (D := (dC, dI)) (ci := 12) (v := .null) (C := RX11) (T := TX11) (N := 16) hx hb hts (fun w h => List.mem_cons_of_mem _ (uG_X11 w h)) hown hK hP 0 rfl rfl 5 (by decide) (hts _ (List.mem_cons_of_mem _ kw_433)) (fun _ h9 => h9) rfl dX11_answer_1 ?_
  refine lv_ifnullN (tgt := 14) hx hb dX11_answer_4 (by decide) ?_
  have hP9 := hP.sub (ws' := [(h0, .inr (12, [v0, .int ts, .ref hQ, v3, .int lf, .null, v6, v7, v8, v9, v10, .int ar, v12, v13, .int ct, v15]))]) [0] rfl
  have hD9 := hD.sub (ws' := [(h0, .inr (12, [v0, .int ts, .ref hQ, v3, .int lf, .null, v6, v7, v8, v9, v10, .int ar, v12, v13, .int ct, v15]))]) [0] (by decide) rfl
  have hK9 := hK.sub (tys' := [(cB, .byte), (cI, .int), (cJ, .long), (cZ, .boolean)]) [0, 1, 2, 3] rfl
  exact W.vret hx hb hr (fun t_ ht hW => ⟨⟨(), rfl, trivial, by rw [ht]; exact hP9, va_K.moved hW.alike hK9, hD9⟩, hS.F ht⟩) hS.2.2 dX11_answer_14
theorem dX11_row_0 : decode cX11_row 0 = .ok (.aload_n 0, 1) := by decide +kernel
theorem dX11_row_1 : decode cX11_row 1 = .ok (.iconst 0, 1) := by decide +kernel
theorem dX11_row_2 : decode cX11_row 2 = .ok (.putfield 98, 3) := by decide +kernel
theorem dX11_row_5 : decode cX11_row 5 = .ok (.aload_n 0, 1) := by decide +kernel
theorem dX11_row_6 : decode cX11_row 6 = .ok (.getfield 16, 3) := by decide +kernel
theorem dX11_row_9 : decode cX11_row 9 = .ok (.iload_n 1, 1) := by decide +kernel
theorem dX11_row_10 : decode cX11_row 10 = .ok (.lload_n 2, 1) := by decide +kernel
theorem dX11_row_11 : decode cX11_row 11 = .ok (.invokevirtual 135, 3) := by decide +kernel
theorem dX11_row_14 : decode cX11_row 14 = .ok (.istore 4, 2) := by decide +kernel
theorem dX11_row_16 : decode cX11_row 16 = .ok (.iload 4, 2) := by decide +kernel
theorem dX11_row_18 : decode cX11_row 18 = .ok (.iconst (-1), 1) := by decide +kernel
theorem dX11_row_19 : decode cX11_row 19 = .ok (.if_icmp .eq 8, 3) := by decide +kernel
theorem dX11_row_27 : decode cX11_row 27 = .ok (.iload 4, 2) := by decide +kernel
theorem dX11_row_29 : decode cX11_row 29 = .ok (.ireturn, 1) := by decide +kernel
abbrev cs_t_X11_row_o (cB cI cJ cZ : ClassId) (h0 hQ : Nat) (v0 v3 v6 v7 v8 v9 v10 v12 v13 v15 : Value) (ts lf : Int32) (ct ar : Int32) (hC hV hN hH hX hY : Nat) (k d : Nat) (cf : Nat → Int32) (vf : Nat → Int64) (nf tf : Nat → Int32) (xf : Nat → Int64) (yf : Nat → Int32) (wm : Int64) (y : Int32) (x : Int64) : va_W := [(h0, .inr (12, [v0, .int ts, .ref hQ, v3, .int lf, .null, v6, v7, v8, v9, v10, .int ar, v12, v13, .int ct, v15])), (hQ, .inr (8, [.int (nI k), .long wm, .ref hC, .ref hV, .ref hN, .ref hH, .ref hX, .ref hY, .int (nI d)])), (hC, .inl (cI, 6, .inl cf)), (hV, .inl (cJ, 240, .inr (.inl vf))), (hN, .inl (cB, 240, .inl nf)), (hH, .inl (cB, 48, .inl tf)), (hX, .inl (cJ, 4, .inr (.inl xf))), (hY, .inl (cB, 4, .inl yf))]
abbrev pc_t_X11_row_o (dC : Nat → ClassId) (dI : Nat → Nat → Nat) (sz : Nat) (cB cI cJ cZ : ClassId) (h0 hQ : Nat) (v0 v3 v6 v7 v8 v9 v10 v12 v13 v15 : Value) (ts lf : Int32) (ct ar : Int32) (hC hV hN hH hX hY : Nat) (k d : Nat) (cf : Nat → Int32) (vf : Nat → Int64) (nf tf : Nat → Int32) (xf : Nat → Int64) (yf : Nat → Int32) (wm : Int64) (y : Int32) (x : Int64) : Array Value → State → Prop := va_Pc [.ref h0, .int y, .long x] (fun U => U.heap.size = sz ∧ va_P (dC, dI) vwCl [(h0, .inr (12, [v0, .int ts, .ref hQ, v3, .int lf, .null, v6, v7, v8, v9, v10, .int ar, v12, v13, .int ct, v15])), (hQ, .inr (8, [.int (nI k), .long wm, .ref hC, .ref hV, .ref hN, .ref hH, .ref hX, .ref hY, .int (nI d)])), (hC, .inl (cI, 6, .inl cf)), (hV, .inl (cJ, 240, .inr (.inl vf))), (hN, .inl (cB, 240, .inl nf)), (hH, .inl (cB, 48, .inl tf)), (hX, .inl (cJ, 4, .inr (.inl xf))), (hY, .inl (cB, 4, .inl yf))] U.heap ∧ va_K (dC, dI) vwCl [(cB, .byte), (cI, .int), (cJ, .long), (cZ, .boolean)] U ∧ va_D (fun _ => True) [(h0, .inr (12, [v0, .int ts, .ref hQ, v3, .int lf, .null, v6, v7, v8, v9, v10, .int ar, v12, v13, .int ct, v15])), (hQ, .inr (8, [.int (nI k), .long wm, .ref hC, .ref hV, .ref hN, .ref hH, .ref hX, .ref hY, .int (nI d)])), (hC, .inl (cI, 6, .inl cf)), (hV, .inl (cJ, 240, .inr (.inl vf))), (hN, .inl (cB, 240, .inl nf)), (hH, .inl (cB, 48, .inl tf)), (hX, .inl (cJ, 4, .inr (.inl xf))), (hY, .inl (cB, 4, .inl yf))])
abbrev qc_t_X11_row_o (dC : Nat → ClassId) (dI : Nat → Nat → Nat) (cB cI cJ cZ : ClassId) (h0 hQ : Nat) (v0 v3 v6 v7 v8 v9 v10 v12 v13 v15 : Value) (ts lf : Int32) (ct ar : Int32) (hC hV hN hH hX hY : Nat) (k d : Nat) (cf : Nat → Int32) (vf : Nat → Int64) (nf tf : Nat → Int32) (xf : Nat → Int64) (yf : Nat → Int32) (wm : Int64) (y : Int32) (x : Int64) (A : Nat → Prop) : Array Value → State → Outcome → State → Prop := va_Qi (fun (r : Int32) (u : Unit) => match u with | _ => r = -1) (fun (u : Unit) t_ => match u with | _ => va_P (dC, dI) vwCl [(h0, .inr (12, [v0, .int ts, .ref hQ, v3, .int lf, .null, v6, v7, v8, v9, v10, .int ar, v12, v13, .int 0, v15])), (hQ, .inr (8, [.int (nI k), .long wm, .ref hC, .ref hV, .ref hN, .ref hH, .ref hX, .ref hY, .int 0])), (hC, .inl (cI, 6, .inl cf)), (hV, .inl (cJ, 240, .inr (.inl vf))), (hN, .inl (cB, 240, .inl nf)), (hH, .inl (cB, 48, .inl tf)), (hX, .inl (cJ, 4, .inr (.inl xf))), (hY, .inl (cB, 4, .inl yf))] t_.heap ∧ va_K (dC, dI) vwCl [(cB, .byte), (cI, .int), (cJ, .long), (cZ, .boolean)] t_ ∧ va_D A [(h0, .inr (12, [v0, .int ts, .ref hQ, v3, .int lf, .null, v6, v7, v8, v9, v10, .int ar, v12, v13, .int 0, v15])), (hQ, .inr (8, [.int (nI k), .long wm, .ref hC, .ref hV, .ref hN, .ref hH, .ref hX, .ref hY, .int 0])), (hC, .inl (cI, 6, .inl cf)), (hV, .inl (cJ, 240, .inr (.inl vf))), (hN, .inl (cB, 240, .inl nf)), (hH, .inl (cB, 48, .inl tf)), (hX, .inl (cJ, 4, .inr (.inl xf))), (hY, .inl (cB, 4, .inl yf))]) A
set_option maxHeartbeats 4000000 in
set_option maxRecDepth 100000 in
theorem t_X11_row_o (l : Launch) (dC : Nat → ClassId) (dI : Nat → Nat → Nat) (sz : Nat) (cB cI cJ cZ : ClassId) (h0 hQ : Nat) (v0 v3 v6 v7 v8 v9 v10 v12 v13 v15 : Value) (ts lf : Int32) (ct ar : Int32) (hC hV hN hH hX hY : Nat) (k d : Nat) (cf : Nat → Int32) (vf : Nat → Int64) (nf tf : Nat → Int32) (xf : Nat → Int64) (yf : Nat → Int32) (wm : Int64) (y : Int32) (x : Int64) (hk : k ≤ 6) (ho : y < 0 ∨ nI k ≤ y) : Met l yX11_row (wsOf yX11_row cX11_row 5 (some .int)) ({ frames := 4, cells := 0, slots := 0, locals := 240 }) (pc_t_X11_row_o dC dI sz cB cI cJ cZ h0 hQ v0 v3 v6 v7 v8 v9 v10 v12 v13 v15 ts lf ct ar hC hV hN hH hX hY k d cf vf nf tf xf yf wm y x) (qc_t_X11_row_o dC dI cB cI cJ cZ h0 hQ v0 v3 v6 v7 v8 v9 v10 v12 v13 v15 ts lf ct ar hC hV hN hH hX hY k d cf vf nf tf xf yf wm y x (va_A (cs_t_X11_row_o cB cI cJ cZ h0 hQ v0 v3 v6 v7 v8 v9 v10 v12 v13 v15 ts lf ct ar hC hV hN hH hX hY k d cf vf nf tf xf yf wm y x) sz)) 0 0 (va_A (cs_t_X11_row_o cB cI cJ cZ h0 hQ v0 v3 v6 v7 v8 v9 v10 v12 v13 v15 ts lf ct ar hC hV hN hH hX hY k d cf vf nf tf xf yf wm y x) sz) := by
  refine Met.ofW (cc := cX11_row) (maxL := 5) (ret := (some .int)) (by decide) rfl ?_
  intro p e s m args below meth c s₁ B hml hv
  obtain ⟨rfl, hsz, hP, hK, hD0⟩ := hv
  have hx := B.exec
  have hb := B.bytes
  have hr := B.returns
  have hts := atoms_spec (ws := (wsOf yX11_row cX11_row 5 (some .int))) B.pre
  have hown : s.vm.findClass RX11 = some m.cls := findClass_of_methodNamed B.named
  have hlocks := B.notSynchronized
  subst hsz
  have hD := hD0.self (sz := s.heap.size)
  generalize hAe : va_A (cs_t_X11_row_o cB cI cJ cZ h0 hQ v0 v3 v6 v7 v8 v9 v10 v12 v13 v15 ts lf ct ar hC hV hN hH hX hY k d cf vf nf tf xf yf wm y x) s.heap.size = A at hD ⊢
  have hA : ∀ q : Nat, s.heap.size ≤ q → A q := fun q h => by rw [← hAe]; exact Or.inr h
  have hS : va_S A s.heap s.heap [] := va_S.rf
  have hP : va_P (dC, dI) vwCl [(h0, .inr (12, [v0, .int ts, .ref hQ, v3, .int lf, .null, v6, v7, v8, v9, v10, .int ar, v12, v13, .int ct, v15])), (hQ, .inr (8, [.int (nI k), .long wm, .ref hC, .ref hV, .ref hN, .ref hH, .ref hX, .ref hY, .int (nI d)])), (hC, .inl (cI, 6, .inl cf)), (hV, .inl (cJ, 240, .inr (.inl vf))), (hN, .inl (cB, 240, .inl nf)), (hH, .inl (cB, 48, .inl tf)), (hX, .inl (cJ, 4, .inr (.inl xf))), (hY, .inl (cB, 4, .inl yf))] s.heap := hP
  have hl := lv_entry ([.ref h0, .int y, .long x]) (n := 5) (Nat.le_of_ble_eq_true rfl)
  rw [lg_entry_eq]
  generalize (lg_sl ([.ref h0, .int y, .long x]) ++ List.replicate (5 - (lg_sl ([.ref h0, .int y, .long x])).length) Slot.unset).toArray = ls at hl ⊢
  have hl : lv_has ls 5 [(0, .ref h0), (1, .int y), (2, .long x)] := hl
  refine lv_aload_n hx hb dX11_row_0 rfl (lv_at hl 0 rfl) ?_
  refine lv_iconst (v := 0) hx hb dX11_row_1 (by decide) ?_
  refine va_put (D := (dC, dI)) (ci := 12) (v := .int 0) (ty := .int) (C := RX11) (T := TX11) (N := 16) hx hb hts (fun w h => List.mem_cons_of_mem _ (uG_X11 w h)) tyX11 tyX11_ok nmX11 hown hK hP hD hS 0 rfl rfl 14 (by decide) (hts _ (List.mem_cons_of_mem _ kw_442)) (fun _ h9 => h9) rfl (by decide +kernel) rfl rfl (Nat.le_of_ble_eq_true rfl) dX11_row_2 (fun H locs hP hD hS => ?_)
  have hP : va_P (dC, dI) vwCl [(h0, .inr (12, [v0, .int ts, .ref hQ, v3, .int lf, .null, v6, v7, v8, v9, v10, .int ar, v12, v13, .int 0, v15])), (hQ, .inr (8, [.int (nI k), .long wm, .ref hC, .ref hV, .ref hN, .ref hH, .ref hX, .ref hY, .int (nI d)])), (hC, .inl (cI, 6, .inl cf)), (hV, .inl (cJ, 240, .inr (.inl vf))), (hN, .inl (cB, 240, .inl nf)), (hH, .inl (cB, 48, .inl tf)), (hX, .inl (cJ, 4, .inr (.inl xf))), (hY, .inl (cB, 4, .inl yf))] H := hP
  have hD : va_D A [(h0, .inr (12, [v0, .int ts, .ref hQ, v3, .int lf, .null, v6, v7, v8, v9, v10, .int ar, v12, v13, .int 0, v15])), (hQ, .inr (8, [.int (nI k), .long wm, .ref hC, .ref hV, .ref hN, .ref hH, .ref hX, .ref hY, .int (nI d)])), (hC, .inl (cI, 6, .inl cf)), (hV, .inl (cJ, 240, .inr (.inl vf))), (hN, .inl (cB, 240, .inl nf)), (hH, .inl (cB, 48, .inl tf)), (hX, .inl (cJ, 4, .inr (.inl xf))), (hY, .inl (cB, 4, .inl yf))] := hD
  refine lv_aload_n hx hb dX11_row_5 rfl (lv_at hl 0 rfl) ?_
  refine va_get (D := (dC, dI)) (ci := 12) (v := .ref hQ) (C := RX11) (T := TX11) (N := 16) hx hb hts (fun w h => List.mem_cons_of_mem _ (uG_X11 w h)) hown hK hP 0 rfl rfl 2 (by decide) (hts _ (List.mem_cons_of_mem _ kw_430)) (fun _ h9 => h9) rfl dX11_row_6 ?_
  refine lv_iload_n hx hb dX11_row_9 rfl (lv_at hl 1 rfl) ?_
  refine lv_lload_n hx hb dX11_row_10 rfl (lv_at hl 2 rfl) ?_
  have hPc := hP.sub (ws' := [(hQ, .inr (8, [.int (nI k), .long wm, .ref hC, .ref hV, .ref hN, .ref hH, .ref hX, .ref hY, .int (nI d)])), (hC, .inl (cI, 6, .inl cf)), (hV, .inl (cJ, 240, .inr (.inl vf))), (hN, .inl (cB, 240, .inl nf)), (hH, .inl (cB, 48, .inl tf)), (hX, .inl (cJ, 4, .inr (.inl xf))), (hY, .inl (cB, 4, .inl yf))]) [1, 2, 3, 4, 5, 6, 7] rfl
  have hDc := hD.sub (ws' := [(hQ, .inr (8, [.int (nI k), .long wm, .ref hC, .ref hV, .ref hN, .ref hH, .ref hX, .ref hY, .int (nI d)])), (hC, .inl (cI, 6, .inl cf)), (hV, .inl (cJ, 240, .inr (.inl vf))), (hN, .inl (cB, 240, .inl nf)), (hH, .inl (cB, 48, .inl tf)), (hX, .inl (cJ, 4, .inr (.inl xf))), (hY, .inl (cB, 4, .inl yf))]) [1, 2, 3, 4, 5, 6, 7] (by decide) rfl
  have hKc := hK.sub (tys' := [(cB, .byte), (cI, .int), (cJ, .long), (cZ, .boolean)]) [0, 1, 2, 3] rfl
  have hFc := va_free (wc := [(hQ, .inr (8, [.int (nI k), .long wm, .ref hC, .ref hV, .ref hN, .ref hH, .ref hX, .ref hY, .int (nI d)])), (hC, .inl (cI, 6, .inl cf)), (hV, .inl (cJ, 240, .inr (.inl vf))), (hN, .inl (cB, 240, .inl nf)), (hH, .inl (cB, 48, .inl tf)), (hX, .inl (cJ, 4, .inr (.inl xf))), (hY, .inl (cB, 4, .inl yf))]) hD hS hA [1, 2, 3, 4, 5, 6, 7] rfl
  refine va_calli (va_runV (As := [.int y, .long x]) (rest := []) ⟨hx, hb, hml, hown, hts⟩ (t_X7_settle_o l dC dI H.size cB cI cJ cZ hQ hC hV hN hH hX hY k cf vf nf tf xf yf wm d y x hk ho) (cwV 2 hts (gd_all (in_V kw_1582 kw_1583 kw_1584 kw_182 kc_X7_settle)) rfl rfl rfl (by decide +kernel) ⟨Nat.le_of_ble_eq_true rfl, Nat.le_of_ble_eq_true rfl⟩) ⟨fun a U g mk q => by obtain ⟨q0, q1, qP, qK, qD⟩ := q; exact ⟨q0, q1, qP, va_K.moved (u := U) (U := U.calling g mk a) (Vm.Alike.refl U.vm) qK, qD⟩, va_recv hKc hPc (ci := 8) (q0 := 0) rfl rfl, fun U hU hW => ⟨rfl, by rw [hU], by rw [hU]; exact hPc, va_K.moved hW.alike hKc, hDc.weaken (fun _ _ _ _ => trivial)⟩⟩ rfl rfl hl.1 rfl (lv_room (Nat.le_of_ble_eq_true rfl)) dX11_row_11 ⟨Nat.le_of_ble_eq_true rfl, Nat.le_of_ble_eq_true rfl⟩) hS (fun q _ h => hFc q h) hFc (fun r_1 u t_ H1 locs ht hvm hw hB hz1 hk1 hS => ?_)
  obtain ⟨hP1, hK1, hD1⟩ := hB
  rw [ht] at hP1
  have hK1 := va_K.moved hvm.symm hK1
  obtain ⟨hP, hD⟩ := va_join (wr := [(h0, .inr (12, [v0, .int ts, .ref hQ, v3, .int lf, .null, v6, v7, v8, v9, v10, .int ar, v12, v13, .int 0, v15]))]) (w1 := [(hQ, .inr (8, [.int (nI k), .long wm, .ref hC, .ref hV, .ref hN, .ref hH, .ref hX, .ref hY, .int 0])), (hC, .inl (cI, 6, .inl cf)), (hV, .inl (cJ, 240, .inr (.inl vf))), (hN, .inl (cB, 240, .inl nf)), (hH, .inl (cB, 48, .inl tf)), (hX, .inl (cJ, 4, .inr (.inl xf))), (hY, .inl (cB, 4, .inl yf))]) hP hD [1, 2, 3, 4, 5, 6, 7] [0] rfl rfl (by decide) (by decide) hk1 hFc hP1 hD1
  have hK := (hK.sub (tys' := []) [] rfl).app hK1
  generalize H1 = H at hP hS ⊢
  have hP : va_P (dC, dI) vwCl [(h0, .inr (12, [v0, .int ts, .ref hQ, v3, .int lf, .null, v6, v7, v8, v9, v10, .int ar, v12, v13, .int 0, v15])), (hQ, .inr (8, [.int (nI k), .long wm, .ref hC, .ref hV, .ref hN, .ref hH, .ref hX, .ref hY, .int 0])), (hC, .inl (cI, 6, .inl cf)), (hV, .inl (cJ, 240, .inr (.inl vf))), (hN, .inl (cB, 240, .inl nf)), (hH, .inl (cB, 48, .inl tf)), (hX, .inl (cJ, 4, .inr (.inl xf))), (hY, .inl (cB, 4, .inl yf))] H := hP
  have hD : va_D A [(h0, .inr (12, [v0, .int ts, .ref hQ, v3, .int lf, .null, v6, v7, v8, v9, v10, .int ar, v12, v13, .int 0, v15])), (hQ, .inr (8, [.int (nI k), .long wm, .ref hC, .ref hV, .ref hN, .ref hH, .ref hX, .ref hY, .int 0])), (hC, .inl (cI, 6, .inl cf)), (hV, .inl (cJ, 240, .inr (.inl vf))), (hN, .inl (cB, 240, .inl nf)), (hH, .inl (cB, 48, .inl tf)), (hX, .inl (cJ, 4, .inr (.inl xf))), (hY, .inl (cB, 4, .inl yf))] := hD
  have hK : va_K (dC, dI) vwCl [(cB, .byte), (cI, .int), (cJ, .long), (cZ, .boolean)] s := hK
  have er_1 : r_1 = (-1) := hw
  rw [er_1]
  refine lv_istore (lv' := [(4, .int (-1)), (0, .ref h0), (1, .int y), (2, .long x)]) hx hb dX11_row_14 hl (by decide) rfl (fun ls hl => ?_)
  refine lv_iload hx hb dX11_row_16 (lv_at hl 0 rfl) ?_
  refine lv_iconst (v := (-1)) hx hb dX11_row_18 (by decide) ?_
  refine lv_icmp_eq (tgt := 27) hx hb dX11_row_19 (by decide) (fun c_2 => ?_) (fun c_2 => ?_)
  · skip
    refine lv_iload hx hb dX11_row_27 (lv_at hl 0 rfl) ?_
    have hP9 := hP.sub (ws' := [(h0, .inr (12, [v0, .int ts, .ref hQ, v3, .int lf, .null, v6, v7, v8, v9, v10, .int ar, v12, v13, .int 0, v15])), (hQ, .inr (8, [.int (nI k), .long wm, .ref hC, .ref hV, .ref hN, .ref hH, .ref hX, .ref hY, .int 0])), (hC, .inl (cI, 6, .inl cf)), (hV, .inl (cJ, 240, .inr (.inl vf))), (hN, .inl (cB, 240, .inl nf)), (hH, .inl (cB, 48, .inl tf)), (hX, .inl (cJ, 4, .inr (.inl xf))), (hY, .inl (cB, 4, .inl yf))]) [0, 1, 2, 3, 4, 5, 6, 7] rfl
    have hD9 := hD.sub (ws' := [(h0, .inr (12, [v0, .int ts, .ref hQ, v3, .int lf, .null, v6, v7, v8, v9, v10, .int ar, v12, v13, .int 0, v15])), (hQ, .inr (8, [.int (nI k), .long wm, .ref hC, .ref hV, .ref hN, .ref hH, .ref hX, .ref hY, .int 0])), (hC, .inl (cI, 6, .inl cf)), (hV, .inl (cJ, 240, .inr (.inl vf))), (hN, .inl (cB, 240, .inl nf)), (hH, .inl (cB, 48, .inl tf)), (hX, .inl (cJ, 4, .inr (.inl xf))), (hY, .inl (cB, 4, .inl yf))]) [0, 1, 2, 3, 4, 5, 6, 7] (by decide) rfl
    have hK9 := hK.sub (tys' := [(cB, .byte), (cI, .int), (cJ, .long), (cZ, .boolean)]) [0, 1, 2, 3] rfl
    exact W.iret (v := (-1)) hx hb hr (fun t_ ht hW => ⟨⟨(-1), (), rfl, rfl, by rw [ht]; exact hP9, va_K.moved hW.alike hK9, hD9⟩, hS.F ht⟩) hS.2.2 dX11_row_29
  · skip
    exact absurd rfl c_2
theorem dX11_back_0 : decode cX11_back 0 = .ok (.aload_n 0, 1) := by decide +kernel
theorem dX11_back_1 : decode cX11_back 1 = .ok (.iconst 0, 1) := by decide +kernel
theorem dX11_back_2 : decode cX11_back 2 = .ok (.putfield 98, 3) := by decide +kernel
theorem dX11_back_5 : decode cX11_back 5 = .ok (.aload_n 0, 1) := by decide +kernel
theorem dX11_back_6 : decode cX11_back 6 = .ok (.getfield 16, 3) := by decide +kernel
theorem dX11_back_9 : decode cX11_back 9 = .ok (.iload_n 1, 1) := by decide +kernel
theorem dX11_back_10 : decode cX11_back 10 = .ok (.iload_n 2, 1) := by decide +kernel
theorem dX11_back_11 : decode cX11_back 11 = .ok (.invokevirtual 139, 3) := by decide +kernel
theorem dX11_back_14 : decode cX11_back 14 = .ok (.ifCond .ne 5, 3) := by decide +kernel
theorem dX11_back_17 : decode cX11_back 17 = .ok (.iconst 0, 1) := by decide +kernel
theorem dX11_back_18 : decode cX11_back 18 = .ok (.ireturn, 1) := by decide +kernel
abbrev cs_t_X11_back_oi (cB cI cJ cZ : ClassId) (h0 hQ : Nat) (v0 v3 v6 v7 v8 v9 v10 v12 v13 v15 : Value) (ts lf : Int32) (ct ar : Int32) (hC hH : Nat) (k : Nat) (cf tf : Nat → Int32) (wm : Int64) (wv wn wx wy : Value) (d : Int32) (x y : Int32) : va_W := [(h0, .inr (12, [v0, .int ts, .ref hQ, v3, .int lf, .null, v6, v7, v8, v9, v10, .int ar, v12, v13, .int ct, v15])), (hQ, .inr (8, [.int (nI k), .long wm, .ref hC, wv, wn, .ref hH, wx, wy, .int d])), (hC, .inl (cI, 6, .inl cf)), (hH, .inl (cB, 48, .inl tf))]
abbrev pc_t_X11_back_oi (dC : Nat → ClassId) (dI : Nat → Nat → Nat) (sz : Nat) (cB cI cJ cZ : ClassId) (h0 hQ : Nat) (v0 v3 v6 v7 v8 v9 v10 v12 v13 v15 : Value) (ts lf : Int32) (ct ar : Int32) (hC hH : Nat) (k : Nat) (cf tf : Nat → Int32) (wm : Int64) (wv wn wx wy : Value) (d : Int32) (x y : Int32) : Array Value → State → Prop := va_Pc [.ref h0, .int x, .int y] (fun U => U.heap.size = sz ∧ va_P (dC, dI) vwCl [(h0, .inr (12, [v0, .int ts, .ref hQ, v3, .int lf, .null, v6, v7, v8, v9, v10, .int ar, v12, v13, .int ct, v15])), (hQ, .inr (8, [.int (nI k), .long wm, .ref hC, wv, wn, .ref hH, wx, wy, .int d])), (hC, .inl (cI, 6, .inl cf)), (hH, .inl (cB, 48, .inl tf))] U.heap ∧ va_K (dC, dI) vwCl [(cB, .byte), (cI, .int), (cJ, .long), (cZ, .boolean)] U ∧ va_D (fun _ => True) [(h0, .inr (12, [v0, .int ts, .ref hQ, v3, .int lf, .null, v6, v7, v8, v9, v10, .int ar, v12, v13, .int ct, v15])), (hQ, .inr (8, [.int (nI k), .long wm, .ref hC, wv, wn, .ref hH, wx, wy, .int d])), (hC, .inl (cI, 6, .inl cf)), (hH, .inl (cB, 48, .inl tf))])
abbrev qc_t_X11_back_oi (dC : Nat → ClassId) (dI : Nat → Nat → Nat) (cB cI cJ cZ : ClassId) (h0 hQ : Nat) (v0 v3 v6 v7 v8 v9 v10 v12 v13 v15 : Value) (ts lf : Int32) (ct ar : Int32) (hC hH : Nat) (k : Nat) (cf tf : Nat → Int32) (wm : Int64) (wv wn wx wy : Value) (d : Int32) (x y : Int32) (A : Nat → Prop) : Array Value → State → Outcome → State → Prop := va_Qi (fun (r : Int32) (u : Unit) => match u with | _ => r = 0) (fun (u : Unit) t_ => match u with | _ => va_P (dC, dI) vwCl [(h0, .inr (12, [v0, .int ts, .ref hQ, v3, .int lf, .null, v6, v7, v8, v9, v10, .int ar, v12, v13, .int 0, v15])), (hQ, .inr (8, [.int (nI k), .long wm, .ref hC, wv, wn, .ref hH, wx, wy, .int d])), (hC, .inl (cI, 6, .inl cf)), (hH, .inl (cB, 48, .inl tf))] t_.heap ∧ va_K (dC, dI) vwCl [(cB, .byte), (cI, .int), (cJ, .long), (cZ, .boolean)] t_ ∧ va_D A [(h0, .inr (12, [v0, .int ts, .ref hQ, v3, .int lf, .null, v6, v7, v8, v9, v10, .int ar, v12, v13, .int 0, v15])), (hQ, .inr (8, [.int (nI k), .long wm, .ref hC, wv, wn, .ref hH, wx, wy, .int d])), (hC, .inl (cI, 6, .inl cf)), (hH, .inl (cB, 48, .inl tf))]) A
set_option maxHeartbeats 4000000 in
set_option maxRecDepth 100000 in
theorem t_X11_back_oi (l : Launch) (dC : Nat → ClassId) (dI : Nat → Nat → Nat) (sz : Nat) (cB cI cJ cZ : ClassId) (h0 hQ : Nat) (v0 v3 v6 v7 v8 v9 v10 v12 v13 v15 : Value) (ts lf : Int32) (ct ar : Int32) (hC hH : Nat) (k : Nat) (cf tf : Nat → Int32) (wm : Int64) (wv wn wx wy : Value) (d : Int32) (x y : Int32) (hk : k ≤ 6) (ho : x < 0 ∨ nI k ≤ x) : Met l yX11_back (wsOf yX11_back cX11_back 3 (some .boolean)) ({ frames := 3, cells := 0, slots := 0, locals := 180 }) (pc_t_X11_back_oi dC dI sz cB cI cJ cZ h0 hQ v0 v3 v6 v7 v8 v9 v10 v12 v13 v15 ts lf ct ar hC hH k cf tf wm wv wn wx wy d x y) (qc_t_X11_back_oi dC dI cB cI cJ cZ h0 hQ v0 v3 v6 v7 v8 v9 v10 v12 v13 v15 ts lf ct ar hC hH k cf tf wm wv wn wx wy d x y (va_A (cs_t_X11_back_oi cB cI cJ cZ h0 hQ v0 v3 v6 v7 v8 v9 v10 v12 v13 v15 ts lf ct ar hC hH k cf tf wm wv wn wx wy d x y) sz)) 0 0 (va_A (cs_t_X11_back_oi cB cI cJ cZ h0 hQ v0 v3 v6 v7 v8 v9 v10 v12 v13 v15 ts lf ct ar hC hH k cf tf wm wv wn wx wy d x y) sz) := by
  refine Met.ofW (cc := cX11_back) (maxL := 3) (ret := (some .boolean)) (by decide) rfl ?_
  intro p e s m args below meth c s₁ B hml hv
  obtain ⟨rfl, hsz, hP, hK, hD0⟩ := hv
  have hx := B.exec
  have hb := B.bytes
  have hr := B.returns
  have hts := atoms_spec (ws := (wsOf yX11_back cX11_back 3 (some .boolean))) B.pre
  have hown : s.vm.findClass RX11 = some m.cls := findClass_of_methodNamed B.named
  have hlocks := B.notSynchronized
  subst hsz
  have hD := hD0.self (sz := s.heap.size)
  generalize hAe : va_A (cs_t_X11_back_oi cB cI cJ cZ h0 hQ v0 v3 v6 v7 v8 v9 v10 v12 v13 v15 ts lf ct ar hC hH k cf tf wm wv wn wx wy d x y) s.heap.size = A at hD ⊢
  have hA : ∀ q : Nat, s.heap.size ≤ q → A q := fun q h => by rw [← hAe]; exact Or.inr h
  have hS : va_S A s.heap s.heap [] := va_S.rf
  have hP : va_P (dC, dI) vwCl [(h0, .inr (12, [v0, .int ts, .ref hQ, v3, .int lf, .null, v6, v7, v8, v9, v10, .int ar, v12, v13, .int ct, v15])), (hQ, .inr (8, [.int (nI k), .long wm, .ref hC, wv, wn, .ref hH, wx, wy, .int d])), (hC, .inl (cI, 6, .inl cf)), (hH, .inl (cB, 48, .inl tf))] s.heap := hP
  have hl := lv_entry ([.ref h0, .int x, .int y]) (n := 3) (Nat.le_of_ble_eq_true rfl)
  rw [lg_entry_eq]
  generalize (lg_sl ([.ref h0, .int x, .int y]) ++ List.replicate (3 - (lg_sl ([.ref h0, .int x, .int y])).length) Slot.unset).toArray = ls at hl ⊢
  have hl : lv_has ls 3 [(0, .ref h0), (1, .int x), (2, .int y)] := hl
  refine lv_aload_n hx hb dX11_back_0 rfl (lv_at hl 0 rfl) ?_
  refine lv_iconst (v := 0) hx hb dX11_back_1 (by decide) ?_
  refine va_put (D := (dC, dI)) (ci := 12) (v := .int 0) (ty := .int) (C := RX11) (T := TX11) (N := 16) hx hb hts (fun w h => List.mem_cons_of_mem _ (uG_X11 w h)) tyX11 tyX11_ok nmX11 hown hK hP hD hS 0 rfl rfl 14 (by decide) (hts _ (List.mem_cons_of_mem _ kw_442)) (fun _ h9 => h9) rfl (by decide +kernel) rfl rfl (Nat.le_of_ble_eq_true rfl) dX11_back_2 (fun H locs hP hD hS => ?_)
  have hP : va_P (dC, dI) vwCl [(h0, .inr (12, [v0, .int ts, .ref hQ, v3, .int lf, .null, v6, v7, v8, v9, v10, .int ar, v12, v13, .int 0, v15])), (hQ, .inr (8, [.int (nI k), .long wm, .ref hC, wv, wn, .ref hH, wx, wy, .int d])), (hC, .inl (cI, 6, .inl cf)), (hH, .inl (cB, 48, .inl tf))] H := hP
  have hD : va_D A [(h0, .inr (12, [v0, .int ts, .ref hQ, v3, .int lf, .null, v6, v7, v8, v9, v10, .int ar, v12, v13, .int 0, v15])), (hQ, .inr (8, [.int (nI k), .long wm, .ref hC, wv, wn, .ref hH, wx, wy, .int d])), (hC, .inl (cI, 6, .inl cf)), (hH, .inl (cB, 48, .inl tf))] := hD
  refine lv_aload_n hx hb dX11_back_5 rfl (lv_at hl 0 rfl) ?_
  refine va_get (D := (dC, dI)) (ci := 12) (v := .ref hQ) (C := RX11) (T := TX11) (N := 16) hx hb hts (fun w h => List.mem_cons_of_mem _ (uG_X11 w h)) hown hK hP 0 rfl rfl 2 (by decide) (hts _ (List.mem_cons_of_mem _ kw_430)) (fun _ h9 => h9) rfl dX11_back_6 ?_
  refine lv_iload_n hx hb dX11_back_9 rfl (lv_at hl 1 rfl) ?_
  refine lv_iload_n hx hb dX11_back_10 rfl (lv_at hl 2 rfl) ?_
  have hPc := hP.sub (ws' := [(hQ, .inr (8, [.int (nI k), .long wm, .ref hC, wv, wn, .ref hH, wx, wy, .int d])), (hC, .inl (cI, 6, .inl cf)), (hH, .inl (cB, 48, .inl tf))]) [1, 2, 3] rfl
  have hDc := hD.sub (ws' := [(hQ, .inr (8, [.int (nI k), .long wm, .ref hC, wv, wn, .ref hH, wx, wy, .int d])), (hC, .inl (cI, 6, .inl cf)), (hH, .inl (cB, 48, .inl tf))]) [1, 2, 3] (by decide) rfl
  have hKc := hK.sub (tys' := [(cB, .byte), (cI, .int), (cJ, .long), (cZ, .boolean)]) [0, 1, 2, 3] rfl
  have hFc := va_free (wc := [(hQ, .inr (8, [.int (nI k), .long wm, .ref hC, wv, wn, .ref hH, wx, wy, .int d])), (hC, .inl (cI, 6, .inl cf)), (hH, .inl (cB, 48, .inl tf))]) hD hS hA [1, 2, 3] rfl
  refine va_calli (va_runV (As := [.int x, .int y]) (rest := []) ⟨hx, hb, hml, hown, hts⟩ (t_X7_remove_oi l dC dI H.size cB cI cJ cZ hQ hC hH k cf tf wm wv wn wx wy d x y hk ho) (cwV 2 hts (gd_all (in_V kw_1600 kw_1601 kw_1602 kw_182 kc_X7_remove)) rfl rfl rfl (by decide +kernel) ⟨Nat.le_of_ble_eq_true rfl, Nat.le_of_ble_eq_true rfl⟩) ⟨fun a U g mk q => by obtain ⟨q0, q1, qP, qK, qD⟩ := q; exact ⟨q0, q1, qP, va_K.moved (u := U) (U := U.calling g mk a) (Vm.Alike.refl U.vm) qK, qD⟩, va_recv hKc hPc (ci := 8) (q0 := 0) rfl rfl, fun U hU hW => ⟨rfl, by rw [hU], by rw [hU]; exact hPc, va_K.moved hW.alike hKc, hDc.weaken (fun _ _ _ _ => trivial)⟩⟩ rfl rfl hl.1 rfl (lv_room (Nat.le_of_ble_eq_true rfl)) dX11_back_11 ⟨Nat.le_of_ble_eq_true rfl, Nat.le_of_ble_eq_true rfl⟩) hS (fun q _ h => hFc q h) hFc (fun r_1 u t_ H1 locs ht hvm hw hB hz1 hk1 hS => ?_)
  obtain ⟨hP1, hK1, hD1⟩ := hB
  rw [ht] at hP1
  have hK1 := va_K.moved hvm.symm hK1
  obtain ⟨hP, hD⟩ := va_join (wr := [(h0, .inr (12, [v0, .int ts, .ref hQ, v3, .int lf, .null, v6, v7, v8, v9, v10, .int ar, v12, v13, .int 0, v15]))]) (w1 := [(hQ, .inr (8, [.int (nI k), .long wm, .ref hC, wv, wn, .ref hH, wx, wy, .int d])), (hC, .inl (cI, 6, .inl cf)), (hH, .inl (cB, 48, .inl tf))]) hP hD [1, 2, 3] [0] rfl rfl (by decide) (by decide) hk1 hFc hP1 hD1
  have hK := (hK.sub (tys' := []) [] rfl).app hK1
  generalize H1 = H at hP hS ⊢
  have hP : va_P (dC, dI) vwCl [(h0, .inr (12, [v0, .int ts, .ref hQ, v3, .int lf, .null, v6, v7, v8, v9, v10, .int ar, v12, v13, .int 0, v15])), (hQ, .inr (8, [.int (nI k), .long wm, .ref hC, wv, wn, .ref hH, wx, wy, .int d])), (hC, .inl (cI, 6, .inl cf)), (hH, .inl (cB, 48, .inl tf))] H := hP
  have hD : va_D A [(h0, .inr (12, [v0, .int ts, .ref hQ, v3, .int lf, .null, v6, v7, v8, v9, v10, .int ar, v12, v13, .int 0, v15])), (hQ, .inr (8, [.int (nI k), .long wm, .ref hC, wv, wn, .ref hH, wx, wy, .int d])), (hC, .inl (cI, 6, .inl cf)), (hH, .inl (cB, 48, .inl tf))] := hD
  have hK : va_K (dC, dI) vwCl [(cB, .byte), (cI, .int), (cJ, .long), (cZ, .boolean)] s := hK
  have er_1 : r_1 = 0 := hw
  rw [er_1]
  refine lv_if_ne (tgt := 19) hx hb dX11_back_14 (by decide) (fun c_2 => ?_) (fun c_2 => ?_)
  · skip
    exact absurd c_2 (by decide)
  · skip
    refine lv_iconst (v := 0) hx hb dX11_back_17 (by decide) ?_
    have hP9 := hP.sub (ws' := [(h0, .inr (12, [v0, .int ts, .ref hQ, v3, .int lf, .null, v6, v7, v8, v9, v10, .int ar, v12, v13, .int 0, v15])), (hQ, .inr (8, [.int (nI k), .long wm, .ref hC, wv, wn, .ref hH, wx, wy, .int d])), (hC, .inl (cI, 6, .inl cf)), (hH, .inl (cB, 48, .inl tf))]) [0, 1, 2, 3] rfl
    have hD9 := hD.sub (ws' := [(h0, .inr (12, [v0, .int ts, .ref hQ, v3, .int lf, .null, v6, v7, v8, v9, v10, .int ar, v12, v13, .int 0, v15])), (hQ, .inr (8, [.int (nI k), .long wm, .ref hC, wv, wn, .ref hH, wx, wy, .int d])), (hC, .inl (cI, 6, .inl cf)), (hH, .inl (cB, 48, .inl tf))]) [0, 1, 2, 3] (by decide) rfl
    have hK9 := hK.sub (tys' := [(cB, .byte), (cI, .int), (cJ, .long), (cZ, .boolean)]) [0, 1, 2, 3] rfl
    exact W.zret (v := 0) hx hb hr (by rfl) (fun t_ ht hW => ⟨⟨0, (), rfl, rfl, by rw [ht]; exact hP9, va_K.moved hW.alike hK9, hD9⟩, hS.F ht⟩) hS.2.2 dX11_back_18
theorem dX11_watermark_0 : decode cX11_watermark 0 = .ok (.aload_n 0, 1) := by decide +kernel
theorem dX11_watermark_1 : decode cX11_watermark 1 = .ok (.iconst 0, 1) := by decide +kernel
theorem dX11_watermark_2 : decode cX11_watermark 2 = .ok (.putfield 98, 3) := by decide +kernel
theorem dX11_watermark_5 : decode cX11_watermark 5 = .ok (.lload_n 1, 1) := by decide +kernel
theorem dX11_watermark_6 : decode cX11_watermark 6 = .ok (.aload_n 0, 1) := by decide +kernel
theorem dX11_watermark_7 : decode cX11_watermark 7 = .ok (.getfield 16, 3) := by decide +kernel
theorem dX11_watermark_10 : decode cX11_watermark 10 = .ok (.getfield 143, 3) := by decide +kernel
theorem dX11_watermark_13 : decode cX11_watermark 13 = .ok (.lcmp, 1) := by decide +kernel
theorem dX11_watermark_14 : decode cX11_watermark 14 = .ok (.ifCond .le 16, 3) := by decide +kernel
theorem dX11_watermark_17 : decode cX11_watermark 17 = .ok (.aload_n 0, 1) := by decide +kernel
theorem dX11_watermark_18 : decode cX11_watermark 18 = .ok (.getfield 16, 3) := by decide +kernel
theorem dX11_watermark_21 : decode cX11_watermark 21 = .ok (.lload_n 1, 1) := by decide +kernel
theorem dX11_watermark_22 : decode cX11_watermark 22 = .ok (.putfield 143, 3) := by decide +kernel
theorem dX11_watermark_25 : decode cX11_watermark 25 = .ok (.aload_n 0, 1) := by decide +kernel
theorem dX11_watermark_26 : decode cX11_watermark 26 = .ok (.iconst 1, 1) := by decide +kernel
theorem dX11_watermark_27 : decode cX11_watermark 27 = .ok (.invokevirtual 123, 3) := by decide +kernel
theorem dX11_watermark_30 : decode cX11_watermark 30 = .ok (.aload_n 0, 1) := by decide +kernel
theorem dX11_watermark_31 : decode cX11_watermark 31 = .ok (.getfield 98, 3) := by decide +kernel
theorem dX11_watermark_34 : decode cX11_watermark 34 = .ok (.ireturn, 1) := by decide +kernel
abbrev cs_t_X11_watermark_0 (cB cI cJ cZ : ClassId) (h0 hQ : Nat) (v0 v3 v6 v7 v8 v9 v10 v12 v13 v15 : Value) (ts lf : Int32) (ct ar : Int32) (wc wv wn wt wx wy : Value) (k d : Int32) (wm : Int64) (x : Int64) : va_W := [(h0, .inr (12, [v0, .int ts, .ref hQ, v3, .int lf, .null, v6, v7, v8, v9, v10, .int ar, v12, v13, .int ct, v15])), (hQ, .inr (8, [.int k, .long wm, wc, wv, wn, wt, wx, wy, .int d]))]
abbrev pc_t_X11_watermark_0 (dC : Nat → ClassId) (dI : Nat → Nat → Nat) (sz : Nat) (cB cI cJ cZ : ClassId) (h0 hQ : Nat) (v0 v3 v6 v7 v8 v9 v10 v12 v13 v15 : Value) (ts lf : Int32) (ct ar : Int32) (wc wv wn wt wx wy : Value) (k d : Int32) (wm : Int64) (x : Int64) : Array Value → State → Prop := va_Pc [.ref h0, .long x] (fun U => U.heap.size = sz ∧ va_P (dC, dI) vwCl [(h0, .inr (12, [v0, .int ts, .ref hQ, v3, .int lf, .null, v6, v7, v8, v9, v10, .int ar, v12, v13, .int ct, v15])), (hQ, .inr (8, [.int k, .long wm, wc, wv, wn, wt, wx, wy, .int d]))] U.heap ∧ va_K (dC, dI) vwCl [(cB, .byte), (cI, .int), (cJ, .long), (cZ, .boolean)] U ∧ va_D (fun _ => True) [(h0, .inr (12, [v0, .int ts, .ref hQ, v3, .int lf, .null, v6, v7, v8, v9, v10, .int ar, v12, v13, .int ct, v15])), (hQ, .inr (8, [.int k, .long wm, wc, wv, wn, wt, wx, wy, .int d]))])
abbrev qc_t_X11_watermark_0 (dC : Nat → ClassId) (dI : Nat → Nat → Nat) (cB cI cJ cZ : ClassId) (h0 hQ : Nat) (v0 v3 v6 v7 v8 v9 v10 v12 v13 v15 : Value) (ts lf : Int32) (ct ar : Int32) (wc wv wn wt wx wy : Value) (k d : Int32) (wm : Int64) (x : Int64) (A : Nat → Prop) : Array Value → State → Outcome → State → Prop := va_Qi (fun (r : Int32) (u : Int64) => match u with | w2 => r = 0 ∧ w2 = if x ≤ wm then wm else x) (fun (u : Int64) t_ => match u with | w2 => va_P (dC, dI) vwCl [(h0, .inr (12, [v0, .int ts, .ref hQ, v3, .int lf, .null, v6, v7, v8, v9, v10, .int ar, v12, v13, .int 0, v15])), (hQ, .inr (8, [.int k, .long w2, wc, wv, wn, wt, wx, wy, .int d]))] t_.heap ∧ va_K (dC, dI) vwCl [(cB, .byte), (cI, .int), (cJ, .long), (cZ, .boolean)] t_ ∧ va_D A [(h0, .inr (12, [v0, .int ts, .ref hQ, v3, .int lf, .null, v6, v7, v8, v9, v10, .int ar, v12, v13, .int 0, v15])), (hQ, .inr (8, [.int k, .long w2, wc, wv, wn, wt, wx, wy, .int d]))]) A
set_option maxHeartbeats 4000000 in
set_option maxRecDepth 100000 in
theorem t_X11_watermark_0 (l : Launch) (dC : Nat → ClassId) (dI : Nat → Nat → Nat) (sz : Nat) (cB cI cJ cZ : ClassId) (h0 hQ : Nat) (v0 v3 v6 v7 v8 v9 v10 v12 v13 v15 : Value) (ts lf : Int32) (ct ar : Int32) (wc wv wn wt wx wy : Value) (k d : Int32) (wm : Int64) (x : Int64)  : Met l yX11_watermark (wsOf yX11_watermark cX11_watermark 3 (some .int)) ({ frames := 1, cells := 0, slots := 0, locals := 60 }) (pc_t_X11_watermark_0 dC dI sz cB cI cJ cZ h0 hQ v0 v3 v6 v7 v8 v9 v10 v12 v13 v15 ts lf ct ar wc wv wn wt wx wy k d wm x) (qc_t_X11_watermark_0 dC dI cB cI cJ cZ h0 hQ v0 v3 v6 v7 v8 v9 v10 v12 v13 v15 ts lf ct ar wc wv wn wt wx wy k d wm x (va_A (cs_t_X11_watermark_0 cB cI cJ cZ h0 hQ v0 v3 v6 v7 v8 v9 v10 v12 v13 v15 ts lf ct ar wc wv wn wt wx wy k d wm x) sz)) 0 0 (va_A (cs_t_X11_watermark_0 cB cI cJ cZ h0 hQ v0 v3 v6 v7 v8 v9 v10 v12 v13 v15 ts lf ct ar wc wv wn wt wx wy k d wm x) sz) := by
  refine Met.ofW (cc := cX11_watermark) (maxL := 3) (ret := (some .int)) (by decide) rfl ?_
  intro p e s m args below meth c s₁ B hml hv
  obtain ⟨rfl, hsz, hP, hK, hD0⟩ := hv
  have hx := B.exec
  have hb := B.bytes
  have hr := B.returns
  have hts := atoms_spec (ws := (wsOf yX11_watermark cX11_watermark 3 (some .int))) B.pre
  have hown : s.vm.findClass RX11 = some m.cls := findClass_of_methodNamed B.named
  have hlocks := B.notSynchronized
  subst hsz
  have hD := hD0.self (sz := s.heap.size)
  generalize hAe : va_A (cs_t_X11_watermark_0 cB cI cJ cZ h0 hQ v0 v3 v6 v7 v8 v9 v10 v12 v13 v15 ts lf ct ar wc wv wn wt wx wy k d wm x) s.heap.size = A at hD ⊢
  have hA : ∀ q : Nat, s.heap.size ≤ q → A q := fun q h => by rw [← hAe]; exact Or.inr h
  have hS : va_S A s.heap s.heap [] := va_S.rf
  have hP : va_P (dC, dI) vwCl [(h0, .inr (12, [v0, .int ts, .ref hQ, v3, .int lf, .null, v6, v7, v8, v9, v10, .int ar, v12, v13, .int ct, v15])), (hQ, .inr (8, [.int k, .long wm, wc, wv, wn, wt, wx, wy, .int d]))] s.heap := hP
  have hl := lv_entry ([.ref h0, .long x]) (n := 3) (Nat.le_of_ble_eq_true rfl)
  rw [lg_entry_eq]
  generalize (lg_sl ([.ref h0, .long x]) ++ List.replicate (3 - (lg_sl ([.ref h0, .long x])).length) Slot.unset).toArray = ls at hl ⊢
  have hl : lv_has ls 3 [(0, .ref h0), (1, .long x)] := hl
  refine lv_aload_n hx hb dX11_watermark_0 rfl (lv_at hl 0 rfl) ?_
  refine lv_iconst (v := 0) hx hb dX11_watermark_1 (by decide) ?_
  refine va_put (D := (dC, dI)) (ci := 12) (v := .int 0) (ty := .int) (C := RX11) (T := TX11) (N := 16) hx hb hts (fun w h => List.mem_cons_of_mem _ (uG_X11 w h)) tyX11 tyX11_ok nmX11 hown hK hP hD hS 0 rfl rfl 14 (by decide) (hts _ (List.mem_cons_of_mem _ kw_442)) (fun _ h9 => h9) rfl (by decide +kernel) rfl rfl (Nat.le_of_ble_eq_true rfl) dX11_watermark_2 (fun H locs hP hD hS => ?_)
  have hP : va_P (dC, dI) vwCl [(h0, .inr (12, [v0, .int ts, .ref hQ, v3, .int lf, .null, v6, v7, v8, v9, v10, .int ar, v12, v13, .int 0, v15])), (hQ, .inr (8, [.int k, .long wm, wc, wv, wn, wt, wx, wy, .int d]))] H := hP
  have hD : va_D A [(h0, .inr (12, [v0, .int ts, .ref hQ, v3, .int lf, .null, v6, v7, v8, v9, v10, .int ar, v12, v13, .int 0, v15])), (hQ, .inr (8, [.int k, .long wm, wc, wv, wn, wt, wx, wy, .int d]))] := hD
  refine lv_lload_n hx hb dX11_watermark_5 rfl (lv_at hl 1 rfl) ?_
  refine lv_aload_n hx hb dX11_watermark_6 rfl (lv_at hl 0 rfl) ?_
  refine va_get (D := (dC, dI)) (ci := 12) (v := .ref hQ) (C := RX11) (T := TX11) (N := 16) hx hb hts (fun w h => List.mem_cons_of_mem _ (uG_X11 w h)) hown hK hP 0 rfl rfl 2 (by decide) (hts _ (List.mem_cons_of_mem _ kw_430)) (fun _ h9 => h9) rfl dX11_watermark_7 ?_
  refine va_get (D := (dC, dI)) (ci := 8) (v := .long wm) (C := RX7) (T := TX7) (N := 9) hx hb hts (fun w h => List.mem_cons_of_mem _ (uG_X7 w h)) hown hK hP 1 rfl rfl 1 (by decide) (hts _ (List.mem_cons_of_mem _ kw_226)) (fun _ h9 => h9) rfl dX11_watermark_10 ?_
  refine W.lcmp hx hb dX11_watermark_13 ?_
  refine lv_if_le (tgt := 30) hx hb dX11_watermark_14 (by decide) (fun c_1 => ?_) (fun c_1 => ?_)
  · skip
    have c_1 : x ≤ wm := (lg_cmp_le x wm).mp c_1
    refine lv_aload_n hx hb dX11_watermark_30 rfl (lv_at hl 0 rfl) ?_
    refine va_get (D := (dC, dI)) (ci := 12) (v := .int 0) (C := RX11) (T := TX11) (N := 16) hx hb hts (fun w h => List.mem_cons_of_mem _ (uG_X11 w h)) hown hK hP 0 rfl rfl 14 (by decide) (hts _ (List.mem_cons_of_mem _ kw_442)) (fun _ h9 => h9) rfl dX11_watermark_31 ?_
    have hP9 := hP.sub (ws' := [(h0, .inr (12, [v0, .int ts, .ref hQ, v3, .int lf, .null, v6, v7, v8, v9, v10, .int ar, v12, v13, .int 0, v15])), (hQ, .inr (8, [.int k, .long wm, wc, wv, wn, wt, wx, wy, .int d]))]) [0, 1] rfl
    have hD9 := hD.sub (ws' := [(h0, .inr (12, [v0, .int ts, .ref hQ, v3, .int lf, .null, v6, v7, v8, v9, v10, .int ar, v12, v13, .int 0, v15])), (hQ, .inr (8, [.int k, .long wm, wc, wv, wn, wt, wx, wy, .int d]))]) [0, 1] (by decide) rfl
    have hK9 := hK.sub (tys' := [(cB, .byte), (cI, .int), (cJ, .long), (cZ, .boolean)]) [0, 1, 2, 3] rfl
    exact W.iret (v := 0) hx hb hr (fun t_ ht hW => ⟨⟨0, wm, rfl, ⟨rfl, (if_pos c_1).symm⟩, by rw [ht]; exact hP9, va_K.moved hW.alike hK9, hD9⟩, hS.F ht⟩) hS.2.2 dX11_watermark_34
  · skip
    have c_1 : ¬ (x ≤ wm) := fun h => c_1 ((lg_cmp_le x wm).mpr h)
    refine lv_aload_n hx hb dX11_watermark_17 rfl (lv_at hl 0 rfl) ?_
    refine va_get (D := (dC, dI)) (ci := 12) (v := .ref hQ) (C := RX11) (T := TX11) (N := 16) hx hb hts (fun w h => List.mem_cons_of_mem _ (uG_X11 w h)) hown hK hP 0 rfl rfl 2 (by decide) (hts _ (List.mem_cons_of_mem _ kw_430)) (fun _ h9 => h9) rfl dX11_watermark_18 ?_
    refine lv_lload_n hx hb dX11_watermark_21 rfl (lv_at hl 1 rfl) ?_
    refine va_put (D := (dC, dI)) (ci := 8) (v := .long x) (ty := .long) (C := RX7) (T := TX7) (N := 9) hx hb hts (fun w h => List.mem_cons_of_mem _ (uG_X7 w h)) tyX7 tyX7_ok nmX7 hown hK hP hD hS 1 rfl rfl 1 (by decide) (hts _ (List.mem_cons_of_mem _ kw_226)) (fun _ h9 => h9) rfl (by decide +kernel) rfl rfl (Nat.le_of_ble_eq_true rfl) dX11_watermark_22 (fun H locs hP hD hS => ?_)
    have hP : va_P (dC, dI) vwCl [(h0, .inr (12, [v0, .int ts, .ref hQ, v3, .int lf, .null, v6, v7, v8, v9, v10, .int ar, v12, v13, .int 0, v15])), (hQ, .inr (8, [.int k, .long x, wc, wv, wn, wt, wx, wy, .int d]))] H := hP
    have hD : va_D A [(h0, .inr (12, [v0, .int ts, .ref hQ, v3, .int lf, .null, v6, v7, v8, v9, v10, .int ar, v12, v13, .int 0, v15])), (hQ, .inr (8, [.int k, .long x, wc, wv, wn, wt, wx, wy, .int d]))] := hD
    refine lv_aload_n hx hb dX11_watermark_25 rfl (lv_at hl 0 rfl) ?_
    refine lv_iconst (v := 1) hx hb dX11_watermark_26 (by decide) ?_
    have hPc := hP.sub (ws' := [(h0, .inr (12, [v0, .int ts, .ref hQ, v3, .int lf, .null, v6, v7, v8, v9, v10, .int ar, v12, v13, .int 0, v15]))]) [0] rfl
    have hDc := hD.sub (ws' := [(h0, .inr (12, [v0, .int ts, .ref hQ, v3, .int lf, .null, v6, v7, v8, v9, v10, .int ar, v12, v13, .int 0, v15]))]) [0] (by decide) rfl
    have hKc := hK.sub (tys' := [(cB, .byte), (cI, .int), (cJ, .long), (cZ, .boolean)]) [0, 1, 2, 3] rfl
    have hFc := va_free (wc := [(h0, .inr (12, [v0, .int ts, .ref hQ, v3, .int lf, .null, v6, v7, v8, v9, v10, .int ar, v12, v13, .int 0, v15]))]) hD hS hA [0] rfl
    refine va_callv (va_runV (As := [.int 1]) (rest := []) ⟨hx, hb, hml, hown, hts⟩ (t_X11_answer_0 l dC dI H.size cB cI cJ cZ h0 hQ v0 v3 v6 v7 v8 v9 v10 v12 v13 v15 ts lf 0 ar 1) (cwV 1 hts (gd_all (in_V kw_1326 kw_1328 kw_65 kw_181 kc_X11_answer)) rfl rfl rfl (by decide +kernel) ⟨Nat.le_of_ble_eq_true rfl, Nat.le_of_ble_eq_true rfl⟩) ⟨fun a U g mk q => by obtain ⟨q0, q1, qP, qK, qD⟩ := q; exact ⟨q0, q1, qP, va_K.moved (u := U) (U := U.calling g mk a) (Vm.Alike.refl U.vm) qK, qD⟩, va_recv hKc hPc (ci := 12) (q0 := 0) rfl rfl, fun U hU hW => ⟨rfl, by rw [hU], by rw [hU]; exact hPc, va_K.moved hW.alike hKc, hDc.weaken (fun _ _ _ _ => trivial)⟩⟩ rfl rfl hl.1 rfl (lv_room (Nat.le_of_ble_eq_true rfl)) dX11_watermark_27 ⟨Nat.le_of_ble_eq_true rfl, Nat.le_of_ble_eq_true rfl⟩) hS (fun q _ h => hFc q h) hFc (fun u t_ H1 locs ht hvm hw hB hz1 hk1 hS => ?_)
    obtain ⟨hP1, hK1, hD1⟩ := hB
    rw [ht] at hP1
    have hK1 := va_K.moved hvm.symm hK1
    obtain ⟨hP, hD⟩ := va_join (wr := [(hQ, .inr (8, [.int k, .long x, wc, wv, wn, wt, wx, wy, .int d]))]) (w1 := [(h0, .inr (12, [v0, .int ts, .ref hQ, v3, .int lf, .null, v6, v7, v8, v9, v10, .int ar, v12, v13, .int 0, v15]))]) hP hD [0] [1] rfl rfl (by decide) (by decide) hk1 hFc hP1 hD1
    have hK := (hK.sub (tys' := []) [] rfl).app hK1
    generalize H1 = H at hP hS ⊢
    have hP : va_P (dC, dI) vwCl [(hQ, .inr (8, [.int k, .long x, wc, wv, wn, wt, wx, wy, .int d])), (h0, .inr (12, [v0, .int ts, .ref hQ, v3, .int lf, .null, v6, v7, v8, v9, v10, .int ar, v12, v13, .int 0, v15]))] H := hP
    have hD : va_D A [(hQ, .inr (8, [.int k, .long x, wc, wv, wn, wt, wx, wy, .int d])), (h0, .inr (12, [v0, .int ts, .ref hQ, v3, .int lf, .null, v6, v7, v8, v9, v10, .int ar, v12, v13, .int 0, v15]))] := hD
    have hK : va_K (dC, dI) vwCl [(cB, .byte), (cI, .int), (cJ, .long), (cZ, .boolean)] s := hK
    refine lv_aload_n hx hb dX11_watermark_30 rfl (lv_at hl 0 rfl) ?_
    refine va_get (D := (dC, dI)) (ci := 12) (v := .int 0) (C := RX11) (T := TX11) (N := 16) hx hb hts (fun w h => List.mem_cons_of_mem _ (uG_X11 w h)) hown hK hP 1 rfl rfl 14 (by decide) (hts _ (List.mem_cons_of_mem _ kw_442)) (fun _ h9 => h9) rfl dX11_watermark_31 ?_
    have hP9 := hP.sub (ws' := [(h0, .inr (12, [v0, .int ts, .ref hQ, v3, .int lf, .null, v6, v7, v8, v9, v10, .int ar, v12, v13, .int 0, v15])), (hQ, .inr (8, [.int k, .long x, wc, wv, wn, wt, wx, wy, .int d]))]) [1, 0] rfl
    have hD9 := hD.sub (ws' := [(h0, .inr (12, [v0, .int ts, .ref hQ, v3, .int lf, .null, v6, v7, v8, v9, v10, .int ar, v12, v13, .int 0, v15])), (hQ, .inr (8, [.int k, .long x, wc, wv, wn, wt, wx, wy, .int d]))]) [1, 0] (by decide) rfl
    have hK9 := hK.sub (tys' := [(cB, .byte), (cI, .int), (cJ, .long), (cZ, .boolean)]) [0, 1, 2, 3] rfl
    exact W.iret (v := 0) hx hb hr (fun t_ ht hW => ⟨⟨0, x, rfl, ⟨rfl, (if_neg c_1).symm⟩, by rw [ht]; exact hP9, va_K.moved hW.alike hK9, hD9⟩, hS.F ht⟩) hS.2.2 dX11_watermark_34
theorem dX11_changeCell_0 : decode cX11_changeCell 0 = .ok (.iload_n 1, 1) := by decide +kernel
theorem dX11_changeCell_1 : decode cX11_changeCell 1 = .ok (.ifCond .lt 32, 3) := by decide +kernel
theorem dX11_changeCell_4 : decode cX11_changeCell 4 = .ok (.iload_n 1, 1) := by decide +kernel
theorem dX11_changeCell_5 : decode cX11_changeCell 5 = .ok (.aload_n 0, 1) := by decide +kernel
theorem dX11_changeCell_6 : decode cX11_changeCell 6 = .ok (.getfield 98, 3) := by decide +kernel
theorem dX11_changeCell_9 : decode cX11_changeCell 9 = .ok (.if_icmp .ge 24, 3) := by decide +kernel
theorem dX11_changeCell_33 : decode cX11_changeCell 33 = .ok (.iconst (-1), 1) := by decide +kernel
theorem dX11_changeCell_34 : decode cX11_changeCell 34 = .ok (.ireturn, 1) := by decide +kernel
abbrev cs_t_X11_changeCell_0 (cB cI cJ cZ : ClassId) (h0 hQ : Nat) (v0 v3 v6 v7 v8 v9 v10 v12 v13 v15 : Value) (ts lf : Int32) (ct ar : Int32) (x y : Int32) : va_W := [(h0, .inr (12, [v0, .int ts, .ref hQ, v3, .int lf, .null, v6, v7, v8, v9, v10, .int ar, v12, v13, .int 0, v15]))]
abbrev pc_t_X11_changeCell_0 (dC : Nat → ClassId) (dI : Nat → Nat → Nat) (sz : Nat) (cB cI cJ cZ : ClassId) (h0 hQ : Nat) (v0 v3 v6 v7 v8 v9 v10 v12 v13 v15 : Value) (ts lf : Int32) (ct ar : Int32) (x y : Int32) : Array Value → State → Prop := va_Pc [.ref h0, .int x, .int y] (fun U => U.heap.size = sz ∧ va_P (dC, dI) vwCl [(h0, .inr (12, [v0, .int ts, .ref hQ, v3, .int lf, .null, v6, v7, v8, v9, v10, .int ar, v12, v13, .int 0, v15]))] U.heap ∧ va_K (dC, dI) vwCl [(cB, .byte), (cI, .int), (cJ, .long), (cZ, .boolean)] U ∧ va_D (fun _ => True) [(h0, .inr (12, [v0, .int ts, .ref hQ, v3, .int lf, .null, v6, v7, v8, v9, v10, .int ar, v12, v13, .int 0, v15]))])
abbrev qc_t_X11_changeCell_0 (dC : Nat → ClassId) (dI : Nat → Nat → Nat) (cB cI cJ cZ : ClassId) (h0 hQ : Nat) (v0 v3 v6 v7 v8 v9 v10 v12 v13 v15 : Value) (ts lf : Int32) (ct ar : Int32) (x y : Int32) (A : Nat → Prop) : Array Value → State → Outcome → State → Prop := va_Qi (fun (r : Int32) (u : Unit) => match u with | _ => r = -1) (fun (u : Unit) t_ => match u with | _ => va_P (dC, dI) vwCl [(h0, .inr (12, [v0, .int ts, .ref hQ, v3, .int lf, .null, v6, v7, v8, v9, v10, .int ar, v12, v13, .int 0, v15]))] t_.heap ∧ va_K (dC, dI) vwCl [(cB, .byte), (cI, .int), (cJ, .long), (cZ, .boolean)] t_ ∧ va_D A [(h0, .inr (12, [v0, .int ts, .ref hQ, v3, .int lf, .null, v6, v7, v8, v9, v10, .int ar, v12, v13, .int 0, v15]))]) A
set_option maxHeartbeats 4000000 in
set_option maxRecDepth 100000 in
theorem t_X11_changeCell_0 (l : Launch) (dC : Nat → ClassId) (dI : Nat → Nat → Nat) (sz : Nat) (cB cI cJ cZ : ClassId) (h0 hQ : Nat) (v0 v3 v6 v7 v8 v9 v10 v12 v13 v15 : Value) (ts lf : Int32) (ct ar : Int32) (x y : Int32)  : Met l yX11_changeCell (wsOf yX11_changeCell cX11_changeCell 3 (some .int)) ({ frames := 0, cells := 0, slots := 0, locals := 0 }) (pc_t_X11_changeCell_0 dC dI sz cB cI cJ cZ h0 hQ v0 v3 v6 v7 v8 v9 v10 v12 v13 v15 ts lf ct ar x y) (qc_t_X11_changeCell_0 dC dI cB cI cJ cZ h0 hQ v0 v3 v6 v7 v8 v9 v10 v12 v13 v15 ts lf ct ar x y (va_A (cs_t_X11_changeCell_0 cB cI cJ cZ h0 hQ v0 v3 v6 v7 v8 v9 v10 v12 v13 v15 ts lf ct ar x y) sz)) 0 0 (va_A (cs_t_X11_changeCell_0 cB cI cJ cZ h0 hQ v0 v3 v6 v7 v8 v9 v10 v12 v13 v15 ts lf ct ar x y) sz) := by
  refine Met.ofW (cc := cX11_changeCell) (maxL := 3) (ret := (some .int)) (by decide) rfl ?_
  intro p e s m args below meth c s₁ B hml hv
  obtain ⟨rfl, hsz, hP, hK, hD0⟩ := hv
  have hx := B.exec
  have hb := B.bytes
  have hr := B.returns
  have hts := atoms_spec (ws := (wsOf yX11_changeCell cX11_changeCell 3 (some .int))) B.pre
  have hown : s.vm.findClass RX11 = some m.cls := findClass_of_methodNamed B.named
  have hlocks := B.notSynchronized
  subst hsz
  have hD := hD0.self (sz := s.heap.size)
  generalize hAe : va_A (cs_t_X11_changeCell_0 cB cI cJ cZ h0 hQ v0 v3 v6 v7 v8 v9 v10 v12 v13 v15 ts lf ct ar x y) s.heap.size = A at hD ⊢
  have hA : ∀ q : Nat, s.heap.size ≤ q → A q := fun q h => by rw [← hAe]; exact Or.inr h
  have hS : va_S A s.heap s.heap [] := va_S.rf
  have hP : va_P (dC, dI) vwCl [(h0, .inr (12, [v0, .int ts, .ref hQ, v3, .int lf, .null, v6, v7, v8, v9, v10, .int ar, v12, v13, .int 0, v15]))] s.heap := hP
  have hl := lv_entry ([.ref h0, .int x, .int y]) (n := 3) (Nat.le_of_ble_eq_true rfl)
  rw [lg_entry_eq]
  generalize (lg_sl ([.ref h0, .int x, .int y]) ++ List.replicate (3 - (lg_sl ([.ref h0, .int x, .int y])).length) Slot.unset).toArray = ls at hl ⊢
  have hl : lv_has ls 3 [(0, .ref h0), (1, .int x), (2, .int y)] := hl
  refine lv_iload_n hx hb dX11_changeCell_0 rfl (lv_at hl 1 rfl) ?_
  refine lv_if_lt (tgt := 33) hx hb dX11_changeCell_1 (by decide) (fun c_1 => ?_) (fun c_1 => ?_)
  · skip
    refine lv_iconst (v := (-1)) hx hb dX11_changeCell_33 (by decide) ?_
    have hP9 := hP.sub (ws' := [(h0, .inr (12, [v0, .int ts, .ref hQ, v3, .int lf, .null, v6, v7, v8, v9, v10, .int ar, v12, v13, .int 0, v15]))]) [0] rfl
    have hD9 := hD.sub (ws' := [(h0, .inr (12, [v0, .int ts, .ref hQ, v3, .int lf, .null, v6, v7, v8, v9, v10, .int ar, v12, v13, .int 0, v15]))]) [0] (by decide) rfl
    have hK9 := hK.sub (tys' := [(cB, .byte), (cI, .int), (cJ, .long), (cZ, .boolean)]) [0, 1, 2, 3] rfl
    exact W.iret (v := (-1)) hx hb hr (fun t_ ht hW => ⟨⟨(-1), (), rfl, rfl, by rw [ht]; exact hP9, va_K.moved hW.alike hK9, hD9⟩, hS.F ht⟩) hS.2.2 dX11_changeCell_34
  · skip
    refine lv_iload_n hx hb dX11_changeCell_4 rfl (lv_at hl 1 rfl) ?_
    refine lv_aload_n hx hb dX11_changeCell_5 rfl (lv_at hl 0 rfl) ?_
    refine va_get (D := (dC, dI)) (ci := 12) (v := .int 0) (C := RX11) (T := TX11) (N := 16) hx hb hts (fun w h => List.mem_cons_of_mem _ (uG_X11 w h)) hown hK hP 0 rfl rfl 14 (by decide) (hts _ (List.mem_cons_of_mem _ kw_442)) (fun _ h9 => h9) rfl dX11_changeCell_6 ?_
    refine lv_icmp_ge (tgt := 33) hx hb dX11_changeCell_9 (by decide) (fun c_2 => ?_) (fun c_2 => ?_)
    · skip
      refine lv_iconst (v := (-1)) hx hb dX11_changeCell_33 (by decide) ?_
      have hP9 := hP.sub (ws' := [(h0, .inr (12, [v0, .int ts, .ref hQ, v3, .int lf, .null, v6, v7, v8, v9, v10, .int ar, v12, v13, .int 0, v15]))]) [0] rfl
      have hD9 := hD.sub (ws' := [(h0, .inr (12, [v0, .int ts, .ref hQ, v3, .int lf, .null, v6, v7, v8, v9, v10, .int ar, v12, v13, .int 0, v15]))]) [0] (by decide) rfl
      have hK9 := hK.sub (tys' := [(cB, .byte), (cI, .int), (cJ, .long), (cZ, .boolean)]) [0, 1, 2, 3] rfl
      exact W.iret (v := (-1)) hx hb hr (fun t_ ht hW => ⟨⟨(-1), (), rfl, rfl, by rw [ht]; exact hP9, va_K.moved hW.alike hK9, hD9⟩, hS.F ht⟩) hS.2.2 dX11_changeCell_34
    · skip
      exact absurd (Int32.not_lt.mp c_1) c_2
theorem dX11_changed_0 : decode cX11_changed 0 = .ok (.aload_n 0, 1) := by decide +kernel
theorem dX11_changed_1 : decode cX11_changed 1 = .ok (.iload_n 1, 1) := by decide +kernel
theorem dX11_changed_2 : decode cX11_changed 2 = .ok (.iload_n 2, 1) := by decide +kernel
theorem dX11_changed_3 : decode cX11_changed 3 = .ok (.invokevirtual 147, 3) := by decide +kernel
theorem dX11_changed_6 : decode cX11_changed 6 = .ok (.istore_n 3, 1) := by decide +kernel
theorem dX11_changed_7 : decode cX11_changed 7 = .ok (.iload_n 3, 1) := by decide +kernel
theorem dX11_changed_8 : decode cX11_changed 8 = .ok (.ifCond .ge 5, 3) := by decide +kernel
theorem dX11_changed_11 : decode cX11_changed 11 = .ok (.lconst 0, 1) := by decide +kernel
theorem dX11_changed_12 : decode cX11_changed 12 = .ok (.lreturn, 1) := by decide +kernel
abbrev cs_t_X11_changed_0 (cB cI cJ cZ : ClassId) (h0 hQ : Nat) (v0 v3 v6 v7 v8 v9 v10 v12 v13 v15 : Value) (ts lf : Int32) (ct ar : Int32) (x y : Int32) : va_W := [(h0, .inr (12, [v0, .int ts, .ref hQ, v3, .int lf, .null, v6, v7, v8, v9, v10, .int ar, v12, v13, .int 0, v15]))]
abbrev pc_t_X11_changed_0 (dC : Nat → ClassId) (dI : Nat → Nat → Nat) (sz : Nat) (cB cI cJ cZ : ClassId) (h0 hQ : Nat) (v0 v3 v6 v7 v8 v9 v10 v12 v13 v15 : Value) (ts lf : Int32) (ct ar : Int32) (x y : Int32) : Array Value → State → Prop := va_Pc [.ref h0, .int x, .int y] (fun U => U.heap.size = sz ∧ va_P (dC, dI) vwCl [(h0, .inr (12, [v0, .int ts, .ref hQ, v3, .int lf, .null, v6, v7, v8, v9, v10, .int ar, v12, v13, .int 0, v15]))] U.heap ∧ va_K (dC, dI) vwCl [(cB, .byte), (cI, .int), (cJ, .long), (cZ, .boolean)] U ∧ va_D (fun _ => True) [(h0, .inr (12, [v0, .int ts, .ref hQ, v3, .int lf, .null, v6, v7, v8, v9, v10, .int ar, v12, v13, .int 0, v15]))])
abbrev qc_t_X11_changed_0 (dC : Nat → ClassId) (dI : Nat → Nat → Nat) (cB cI cJ cZ : ClassId) (h0 hQ : Nat) (v0 v3 v6 v7 v8 v9 v10 v12 v13 v15 : Value) (ts lf : Int32) (ct ar : Int32) (x y : Int32) (A : Nat → Prop) : Array Value → State → Outcome → State → Prop := va_Ql (fun (r : Int64) (u : Unit) => match u with | _ => r = 0) (fun (u : Unit) t_ => match u with | _ => va_P (dC, dI) vwCl [(h0, .inr (12, [v0, .int ts, .ref hQ, v3, .int lf, .null, v6, v7, v8, v9, v10, .int ar, v12, v13, .int 0, v15]))] t_.heap ∧ va_K (dC, dI) vwCl [(cB, .byte), (cI, .int), (cJ, .long), (cZ, .boolean)] t_ ∧ va_D A [(h0, .inr (12, [v0, .int ts, .ref hQ, v3, .int lf, .null, v6, v7, v8, v9, v10, .int ar, v12, v13, .int 0, v15]))]) A
set_option maxHeartbeats 4000000 in
set_option maxRecDepth 100000 in
theorem t_X11_changed_0 (l : Launch) (dC : Nat → ClassId) (dI : Nat → Nat → Nat) (sz : Nat) (cB cI cJ cZ : ClassId) (h0 hQ : Nat) (v0 v3 v6 v7 v8 v9 v10 v12 v13 v15 : Value) (ts lf : Int32) (ct ar : Int32) (x y : Int32)  : Met l yX11_changed (wsOf yX11_changed cX11_changed 4 (some .long)) ({ frames := 1, cells := 0, slots := 0, locals := 60 }) (pc_t_X11_changed_0 dC dI sz cB cI cJ cZ h0 hQ v0 v3 v6 v7 v8 v9 v10 v12 v13 v15 ts lf ct ar x y) (qc_t_X11_changed_0 dC dI cB cI cJ cZ h0 hQ v0 v3 v6 v7 v8 v9 v10 v12 v13 v15 ts lf ct ar x y (va_A (cs_t_X11_changed_0 cB cI cJ cZ h0 hQ v0 v3 v6 v7 v8 v9 v10 v12 v13 v15 ts lf ct ar x y) sz)) 0 0 (va_A (cs_t_X11_changed_0 cB cI cJ cZ h0 hQ v0 v3 v6 v7 v8 v9 v10 v12 v13 v15 ts lf ct ar x y) sz) := by
  refine Met.ofW (cc := cX11_changed) (maxL := 4) (ret := (some .long)) (by decide) rfl ?_
  intro p e s m args below meth c s₁ B hml hv
  obtain ⟨rfl, hsz, hP, hK, hD0⟩ := hv
  have hx := B.exec
  have hb := B.bytes
  have hr := B.returns
  have hts := atoms_spec (ws := (wsOf yX11_changed cX11_changed 4 (some .long))) B.pre
  have hown : s.vm.findClass RX11 = some m.cls := findClass_of_methodNamed B.named
  have hlocks := B.notSynchronized
  subst hsz
  have hD := hD0.self (sz := s.heap.size)
  generalize hAe : va_A (cs_t_X11_changed_0 cB cI cJ cZ h0 hQ v0 v3 v6 v7 v8 v9 v10 v12 v13 v15 ts lf ct ar x y) s.heap.size = A at hD ⊢
  have hA : ∀ q : Nat, s.heap.size ≤ q → A q := fun q h => by rw [← hAe]; exact Or.inr h
  have hS : va_S A s.heap s.heap [] := va_S.rf
  have hP : va_P (dC, dI) vwCl [(h0, .inr (12, [v0, .int ts, .ref hQ, v3, .int lf, .null, v6, v7, v8, v9, v10, .int ar, v12, v13, .int 0, v15]))] s.heap := hP
  have hl := lv_entry ([.ref h0, .int x, .int y]) (n := 4) (Nat.le_of_ble_eq_true rfl)
  rw [lg_entry_eq]
  generalize (lg_sl ([.ref h0, .int x, .int y]) ++ List.replicate (4 - (lg_sl ([.ref h0, .int x, .int y])).length) Slot.unset).toArray = ls at hl ⊢
  have hl : lv_has ls 4 [(0, .ref h0), (1, .int x), (2, .int y)] := hl
  refine lv_aload_n hx hb dX11_changed_0 rfl (lv_at hl 0 rfl) ?_
  refine lv_iload_n hx hb dX11_changed_1 rfl (lv_at hl 1 rfl) ?_
  refine lv_iload_n hx hb dX11_changed_2 rfl (lv_at hl 2 rfl) ?_
  have hPc := hP.sub (ws' := [(h0, .inr (12, [v0, .int ts, .ref hQ, v3, .int lf, .null, v6, v7, v8, v9, v10, .int ar, v12, v13, .int 0, v15]))]) [0] rfl
  have hDc := hD.sub (ws' := [(h0, .inr (12, [v0, .int ts, .ref hQ, v3, .int lf, .null, v6, v7, v8, v9, v10, .int ar, v12, v13, .int 0, v15]))]) [0] (by decide) rfl
  have hKc := hK.sub (tys' := [(cB, .byte), (cI, .int), (cJ, .long), (cZ, .boolean)]) [0, 1, 2, 3] rfl
  have hFc := va_free (wc := [(h0, .inr (12, [v0, .int ts, .ref hQ, v3, .int lf, .null, v6, v7, v8, v9, v10, .int ar, v12, v13, .int 0, v15]))]) hD hS hA [0] rfl
  refine va_calli (va_runV (As := [.int x, .int y]) (rest := []) ⟨hx, hb, hml, hown, hts⟩ (t_X11_changeCell_0 l dC dI s.heap.size cB cI cJ cZ h0 hQ v0 v3 v6 v7 v8 v9 v10 v12 v13 v15 ts lf ct ar x y) (cwV 2 hts (gd_all (in_V kw_1620 kw_1622 kw_94 kw_181 kc_X11_changeCell)) rfl rfl rfl (by decide +kernel) ⟨Nat.le_of_ble_eq_true rfl, Nat.le_of_ble_eq_true rfl⟩) ⟨fun a U g mk q => by obtain ⟨q0, q1, qP, qK, qD⟩ := q; exact ⟨q0, q1, qP, va_K.moved (u := U) (U := U.calling g mk a) (Vm.Alike.refl U.vm) qK, qD⟩, va_recv hKc hPc (ci := 12) (q0 := 0) rfl rfl, fun U hU hW => ⟨rfl, by rw [hU], by rw [hU]; exact hPc, va_K.moved hW.alike hKc, hDc.weaken (fun _ _ _ _ => trivial)⟩⟩ rfl rfl hl.1 rfl (lv_room (Nat.le_of_ble_eq_true rfl)) dX11_changed_3 ⟨Nat.le_of_ble_eq_true rfl, Nat.le_of_ble_eq_true rfl⟩) hS (fun q _ h => hFc q h) hFc (fun r_1 u t_ H1 locs ht hvm hw hB hz1 hk1 hS => ?_)
  obtain ⟨hP1, hK1, hD1⟩ := hB
  rw [ht] at hP1
  have hK1 := va_K.moved hvm.symm hK1
  obtain ⟨hP, hD⟩ := va_join (wr := []) (w1 := [(h0, .inr (12, [v0, .int ts, .ref hQ, v3, .int lf, .null, v6, v7, v8, v9, v10, .int ar, v12, v13, .int 0, v15]))]) hP hD [0] [] rfl rfl (by decide) (by decide) hk1 hFc hP1 hD1
  have hK := (hK.sub (tys' := []) [] rfl).app hK1
  generalize H1 = H at hP hS ⊢
  have hP : va_P (dC, dI) vwCl [(h0, .inr (12, [v0, .int ts, .ref hQ, v3, .int lf, .null, v6, v7, v8, v9, v10, .int ar, v12, v13, .int 0, v15]))] H := hP
  have hD : va_D A [(h0, .inr (12, [v0, .int ts, .ref hQ, v3, .int lf, .null, v6, v7, v8, v9, v10, .int ar, v12, v13, .int 0, v15]))] := hD
  have hK : va_K (dC, dI) vwCl [(cB, .byte), (cI, .int), (cJ, .long), (cZ, .boolean)] s := hK
  have er_1 : r_1 = (-1) := hw
  rw [er_1]
  refine lv_istore_n (lv' := [(3, .int (-1)), (0, .ref h0), (1, .int x), (2, .int y)]) hx hb dX11_changed_6 rfl hl (by decide) rfl (fun ls hl => ?_)
  refine lv_iload_n hx hb dX11_changed_7 rfl (lv_at hl 0 rfl) ?_
  refine lv_if_ge (tgt := 13) hx hb dX11_changed_8 (by decide) (fun c_2 => ?_) (fun c_2 => ?_)
  · skip
    exact absurd c_2 (by decide)
  · skip
    refine lv_lconst (v := 0) hx hb dX11_changed_11 (by decide) ?_
    have hP9 := hP.sub (ws' := [(h0, .inr (12, [v0, .int ts, .ref hQ, v3, .int lf, .null, v6, v7, v8, v9, v10, .int ar, v12, v13, .int 0, v15]))]) [0] rfl
    have hD9 := hD.sub (ws' := [(h0, .inr (12, [v0, .int ts, .ref hQ, v3, .int lf, .null, v6, v7, v8, v9, v10, .int ar, v12, v13, .int 0, v15]))]) [0] (by decide) rfl
    have hK9 := hK.sub (tys' := [(cB, .byte), (cI, .int), (cJ, .long), (cZ, .boolean)]) [0, 1, 2, 3] rfl
    exact W.lret (v := 0) hx hb hr (fun t_ ht hW => ⟨⟨0, (), rfl, rfl, by rw [ht]; exact hP9, va_K.moved hW.alike hK9, hD9⟩, hS.F ht⟩) hS.2.2 dX11_changed_12
theorem dX11_changedNull_0 : decode cX11_changedNull 0 = .ok (.aload_n 0, 1) := by decide +kernel
theorem dX11_changedNull_1 : decode cX11_changedNull 1 = .ok (.iload_n 1, 1) := by decide +kernel
theorem dX11_changedNull_2 : decode cX11_changedNull 2 = .ok (.iload_n 2, 1) := by decide +kernel
theorem dX11_changedNull_3 : decode cX11_changedNull 3 = .ok (.invokevirtual 147, 3) := by decide +kernel
theorem dX11_changedNull_6 : decode cX11_changedNull 6 = .ok (.istore_n 3, 1) := by decide +kernel
theorem dX11_changedNull_7 : decode cX11_changedNull 7 = .ok (.iload_n 3, 1) := by decide +kernel
theorem dX11_changedNull_8 : decode cX11_changedNull 8 = .ok (.ifCond .ge 5, 3) := by decide +kernel
theorem dX11_changedNull_11 : decode cX11_changedNull 11 = .ok (.iconst 0, 1) := by decide +kernel
theorem dX11_changedNull_12 : decode cX11_changedNull 12 = .ok (.ireturn, 1) := by decide +kernel
abbrev cs_t_X11_changedNull_0 (cB cI cJ cZ : ClassId) (h0 hQ : Nat) (v0 v3 v6 v7 v8 v9 v10 v12 v13 v15 : Value) (ts lf : Int32) (ct ar : Int32) (x y : Int32) : va_W := [(h0, .inr (12, [v0, .int ts, .ref hQ, v3, .int lf, .null, v6, v7, v8, v9, v10, .int ar, v12, v13, .int 0, v15]))]
abbrev pc_t_X11_changedNull_0 (dC : Nat → ClassId) (dI : Nat → Nat → Nat) (sz : Nat) (cB cI cJ cZ : ClassId) (h0 hQ : Nat) (v0 v3 v6 v7 v8 v9 v10 v12 v13 v15 : Value) (ts lf : Int32) (ct ar : Int32) (x y : Int32) : Array Value → State → Prop := va_Pc [.ref h0, .int x, .int y] (fun U => U.heap.size = sz ∧ va_P (dC, dI) vwCl [(h0, .inr (12, [v0, .int ts, .ref hQ, v3, .int lf, .null, v6, v7, v8, v9, v10, .int ar, v12, v13, .int 0, v15]))] U.heap ∧ va_K (dC, dI) vwCl [(cB, .byte), (cI, .int), (cJ, .long), (cZ, .boolean)] U ∧ va_D (fun _ => True) [(h0, .inr (12, [v0, .int ts, .ref hQ, v3, .int lf, .null, v6, v7, v8, v9, v10, .int ar, v12, v13, .int 0, v15]))])
abbrev qc_t_X11_changedNull_0 (dC : Nat → ClassId) (dI : Nat → Nat → Nat) (cB cI cJ cZ : ClassId) (h0 hQ : Nat) (v0 v3 v6 v7 v8 v9 v10 v12 v13 v15 : Value) (ts lf : Int32) (ct ar : Int32) (x y : Int32) (A : Nat → Prop) : Array Value → State → Outcome → State → Prop := va_Qi (fun (r : Int32) (u : Unit) => match u with | _ => r = 0) (fun (u : Unit) t_ => match u with | _ => va_P (dC, dI) vwCl [(h0, .inr (12, [v0, .int ts, .ref hQ, v3, .int lf, .null, v6, v7, v8, v9, v10, .int ar, v12, v13, .int 0, v15]))] t_.heap ∧ va_K (dC, dI) vwCl [(cB, .byte), (cI, .int), (cJ, .long), (cZ, .boolean)] t_ ∧ va_D A [(h0, .inr (12, [v0, .int ts, .ref hQ, v3, .int lf, .null, v6, v7, v8, v9, v10, .int ar, v12, v13, .int 0, v15]))]) A
set_option maxHeartbeats 4000000 in
set_option maxRecDepth 100000 in
theorem t_X11_changedNull_0 (l : Launch) (dC : Nat → ClassId) (dI : Nat → Nat → Nat) (sz : Nat) (cB cI cJ cZ : ClassId) (h0 hQ : Nat) (v0 v3 v6 v7 v8 v9 v10 v12 v13 v15 : Value) (ts lf : Int32) (ct ar : Int32) (x y : Int32)  : Met l yX11_changedNull (wsOf yX11_changedNull cX11_changedNull 4 (some .boolean)) ({ frames := 1, cells := 0, slots := 0, locals := 60 }) (pc_t_X11_changedNull_0 dC dI sz cB cI cJ cZ h0 hQ v0 v3 v6 v7 v8 v9 v10 v12 v13 v15 ts lf ct ar x y) (qc_t_X11_changedNull_0 dC dI cB cI cJ cZ h0 hQ v0 v3 v6 v7 v8 v9 v10 v12 v13 v15 ts lf ct ar x y (va_A (cs_t_X11_changedNull_0 cB cI cJ cZ h0 hQ v0 v3 v6 v7 v8 v9 v10 v12 v13 v15 ts lf ct ar x y) sz)) 0 0 (va_A (cs_t_X11_changedNull_0 cB cI cJ cZ h0 hQ v0 v3 v6 v7 v8 v9 v10 v12 v13 v15 ts lf ct ar x y) sz) := by
  refine Met.ofW (cc := cX11_changedNull) (maxL := 4) (ret := (some .boolean)) (by decide) rfl ?_
  intro p e s m args below meth c s₁ B hml hv
  obtain ⟨rfl, hsz, hP, hK, hD0⟩ := hv
  have hx := B.exec
  have hb := B.bytes
  have hr := B.returns
  have hts := atoms_spec (ws := (wsOf yX11_changedNull cX11_changedNull 4 (some .boolean))) B.pre
  have hown : s.vm.findClass RX11 = some m.cls := findClass_of_methodNamed B.named
  have hlocks := B.notSynchronized
  subst hsz
  have hD := hD0.self (sz := s.heap.size)
  generalize hAe : va_A (cs_t_X11_changedNull_0 cB cI cJ cZ h0 hQ v0 v3 v6 v7 v8 v9 v10 v12 v13 v15 ts lf ct ar x y) s.heap.size = A at hD ⊢
  have hA : ∀ q : Nat, s.heap.size ≤ q → A q := fun q h => by rw [← hAe]; exact Or.inr h
  have hS : va_S A s.heap s.heap [] := va_S.rf
  have hP : va_P (dC, dI) vwCl [(h0, .inr (12, [v0, .int ts, .ref hQ, v3, .int lf, .null, v6, v7, v8, v9, v10, .int ar, v12, v13, .int 0, v15]))] s.heap := hP
  have hl := lv_entry ([.ref h0, .int x, .int y]) (n := 4) (Nat.le_of_ble_eq_true rfl)
  rw [lg_entry_eq]
  generalize (lg_sl ([.ref h0, .int x, .int y]) ++ List.replicate (4 - (lg_sl ([.ref h0, .int x, .int y])).length) Slot.unset).toArray = ls at hl ⊢
  have hl : lv_has ls 4 [(0, .ref h0), (1, .int x), (2, .int y)] := hl
  refine lv_aload_n hx hb dX11_changedNull_0 rfl (lv_at hl 0 rfl) ?_
  refine lv_iload_n hx hb dX11_changedNull_1 rfl (lv_at hl 1 rfl) ?_
  refine lv_iload_n hx hb dX11_changedNull_2 rfl (lv_at hl 2 rfl) ?_
  have hPc := hP.sub (ws' := [(h0, .inr (12, [v0, .int ts, .ref hQ, v3, .int lf, .null, v6, v7, v8, v9, v10, .int ar, v12, v13, .int 0, v15]))]) [0] rfl
  have hDc := hD.sub (ws' := [(h0, .inr (12, [v0, .int ts, .ref hQ, v3, .int lf, .null, v6, v7, v8, v9, v10, .int ar, v12, v13, .int 0, v15]))]) [0] (by decide) rfl
  have hKc := hK.sub (tys' := [(cB, .byte), (cI, .int), (cJ, .long), (cZ, .boolean)]) [0, 1, 2, 3] rfl
  have hFc := va_free (wc := [(h0, .inr (12, [v0, .int ts, .ref hQ, v3, .int lf, .null, v6, v7, v8, v9, v10, .int ar, v12, v13, .int 0, v15]))]) hD hS hA [0] rfl
  refine va_calli (va_runV (As := [.int x, .int y]) (rest := []) ⟨hx, hb, hml, hown, hts⟩ (t_X11_changeCell_0 l dC dI s.heap.size cB cI cJ cZ h0 hQ v0 v3 v6 v7 v8 v9 v10 v12 v13 v15 ts lf ct ar x y) (cwV 2 hts (gd_all (in_V kw_1620 kw_1622 kw_94 kw_181 kc_X11_changeCell)) rfl rfl rfl (by decide +kernel) ⟨Nat.le_of_ble_eq_true rfl, Nat.le_of_ble_eq_true rfl⟩) ⟨fun a U g mk q => by obtain ⟨q0, q1, qP, qK, qD⟩ := q; exact ⟨q0, q1, qP, va_K.moved (u := U) (U := U.calling g mk a) (Vm.Alike.refl U.vm) qK, qD⟩, va_recv hKc hPc (ci := 12) (q0 := 0) rfl rfl, fun U hU hW => ⟨rfl, by rw [hU], by rw [hU]; exact hPc, va_K.moved hW.alike hKc, hDc.weaken (fun _ _ _ _ => trivial)⟩⟩ rfl rfl hl.1 rfl (lv_room (Nat.le_of_ble_eq_true rfl)) dX11_changedNull_3 ⟨Nat.le_of_ble_eq_true rfl, Nat.le_of_ble_eq_true rfl⟩) hS (fun q _ h => hFc q h) hFc (fun r_1 u t_ H1 locs ht hvm hw hB hz1 hk1 hS => ?_)
  obtain ⟨hP1, hK1, hD1⟩ := hB
  rw [ht] at hP1
  have hK1 := va_K.moved hvm.symm hK1
  obtain ⟨hP, hD⟩ := va_join (wr := []) (w1 := [(h0, .inr (12, [v0, .int ts, .ref hQ, v3, .int lf, .null, v6, v7, v8, v9, v10, .int ar, v12, v13, .int 0, v15]))]) hP hD [0] [] rfl rfl (by decide) (by decide) hk1 hFc hP1 hD1
  have hK := (hK.sub (tys' := []) [] rfl).app hK1
  generalize H1 = H at hP hS ⊢
  have hP : va_P (dC, dI) vwCl [(h0, .inr (12, [v0, .int ts, .ref hQ, v3, .int lf, .null, v6, v7, v8, v9, v10, .int ar, v12, v13, .int 0, v15]))] H := hP
  have hD : va_D A [(h0, .inr (12, [v0, .int ts, .ref hQ, v3, .int lf, .null, v6, v7, v8, v9, v10, .int ar, v12, v13, .int 0, v15]))] := hD
  have hK : va_K (dC, dI) vwCl [(cB, .byte), (cI, .int), (cJ, .long), (cZ, .boolean)] s := hK
  have er_1 : r_1 = (-1) := hw
  rw [er_1]
  refine lv_istore_n (lv' := [(3, .int (-1)), (0, .ref h0), (1, .int x), (2, .int y)]) hx hb dX11_changedNull_6 rfl hl (by decide) rfl (fun ls hl => ?_)
  refine lv_iload_n hx hb dX11_changedNull_7 rfl (lv_at hl 0 rfl) ?_
  refine lv_if_ge (tgt := 13) hx hb dX11_changedNull_8 (by decide) (fun c_2 => ?_) (fun c_2 => ?_)
  · skip
    exact absurd c_2 (by decide)
  · skip
    refine lv_iconst (v := 0) hx hb dX11_changedNull_11 (by decide) ?_
    have hP9 := hP.sub (ws' := [(h0, .inr (12, [v0, .int ts, .ref hQ, v3, .int lf, .null, v6, v7, v8, v9, v10, .int ar, v12, v13, .int 0, v15]))]) [0] rfl
    have hD9 := hD.sub (ws' := [(h0, .inr (12, [v0, .int ts, .ref hQ, v3, .int lf, .null, v6, v7, v8, v9, v10, .int ar, v12, v13, .int 0, v15]))]) [0] (by decide) rfl
    have hK9 := hK.sub (tys' := [(cB, .byte), (cI, .int), (cJ, .long), (cZ, .boolean)]) [0, 1, 2, 3] rfl
    exact W.zret (v := 0) hx hb hr (by rfl) (fun t_ ht hW => ⟨⟨0, (), rfl, rfl, by rw [ht]; exact hP9, va_K.moved hW.alike hK9, hD9⟩, hS.F ht⟩) hS.2.2 dX11_changedNull_12
abbrev cs_t_X11_answerCell_0 (cB cI cJ cZ : ClassId) (h0 hQ : Nat) (v0 v3 v6 v7 v8 v9 v10 v12 v13 v15 : Value) (ts lf : Int32) (ct ar : Int32) (x y : Int32) : va_W := [(h0, .inr (12, [v0, .int ts, .ref hQ, v3, .int lf, .null, v6, v7, v8, v9, v10, .int 0, v12, v13, .int ct, v15]))]
abbrev pc_t_X11_answerCell_0 (dC : Nat → ClassId) (dI : Nat → Nat → Nat) (sz : Nat) (cB cI cJ cZ : ClassId) (h0 hQ : Nat) (v0 v3 v6 v7 v8 v9 v10 v12 v13 v15 : Value) (ts lf : Int32) (ct ar : Int32) (x y : Int32) : Array Value → State → Prop := va_Pc [.ref h0, .int x, .int y] (fun U => U.heap.size = sz ∧ va_P (dC, dI) vwCl [(h0, .inr (12, [v0, .int ts, .ref hQ, v3, .int lf, .null, v6, v7, v8, v9, v10, .int 0, v12, v13, .int ct, v15]))] U.heap ∧ va_K (dC, dI) vwCl [(cB, .byte), (cI, .int), (cJ, .long), (cZ, .boolean)] U ∧ va_D (fun _ => True) [(h0, .inr (12, [v0, .int ts, .ref hQ, v3, .int lf, .null, v6, v7, v8, v9, v10, .int 0, v12, v13, .int ct, v15]))])
abbrev qc_t_X11_answerCell_0 (dC : Nat → ClassId) (dI : Nat → Nat → Nat) (cB cI cJ cZ : ClassId) (h0 hQ : Nat) (v0 v3 v6 v7 v8 v9 v10 v12 v13 v15 : Value) (ts lf : Int32) (ct ar : Int32) (x y : Int32) (A : Nat → Prop) : Array Value → State → Outcome → State → Prop := va_Qi (fun (r : Int32) (u : Unit) => match u with | _ => r = -1) (fun (u : Unit) t_ => match u with | _ => va_P (dC, dI) vwCl [(h0, .inr (12, [v0, .int ts, .ref hQ, v3, .int lf, .null, v6, v7, v8, v9, v10, .int 0, v12, v13, .int ct, v15]))] t_.heap ∧ va_K (dC, dI) vwCl [(cB, .byte), (cI, .int), (cJ, .long), (cZ, .boolean)] t_ ∧ va_D A [(h0, .inr (12, [v0, .int ts, .ref hQ, v3, .int lf, .null, v6, v7, v8, v9, v10, .int 0, v12, v13, .int ct, v15]))]) A
set_option maxHeartbeats 4000000 in
set_option maxRecDepth 100000 in
theorem t_X11_answerCell_0 (l : Launch) (dC : Nat → ClassId) (dI : Nat → Nat → Nat) (sz : Nat) (cB cI cJ cZ : ClassId) (h0 hQ : Nat) (v0 v3 v6 v7 v8 v9 v10 v12 v13 v15 : Value) (ts lf : Int32) (ct ar : Int32) (x y : Int32)  : Met l yX11_answerCell (wsOf yX11_answerCell cX11_answerCell 3 (some .int)) ({ frames := 0, cells := 0, slots := 0, locals := 0 }) (pc_t_X11_answerCell_0 dC dI sz cB cI cJ cZ h0 hQ v0 v3 v6 v7 v8 v9 v10 v12 v13 v15 ts lf ct ar x y) (qc_t_X11_answerCell_0 dC dI cB cI cJ cZ h0 hQ v0 v3 v6 v7 v8 v9 v10 v12 v13 v15 ts lf ct ar x y (va_A (cs_t_X11_answerCell_0 cB cI cJ cZ h0 hQ v0 v3 v6 v7 v8 v9 v10 v12 v13 v15 ts lf ct ar x y) sz)) 0 0 (va_A (cs_t_X11_answerCell_0 cB cI cJ cZ h0 hQ v0 v3 v6 v7 v8 v9 v10 v12 v13 v15 ts lf ct ar x y) sz) := by
  refine Met.ofW (cc := cX11_answerCell) (maxL := 3) (ret := (some .int)) (by decide) rfl ?_
  intro p e s m args below meth c s₁ B hml hv
  obtain ⟨rfl, hsz, hP, hK, hD0⟩ := hv
  have hx := B.exec
  have hb := B.bytes
  have hr := B.returns
  have hts := atoms_spec (ws := (wsOf yX11_answerCell cX11_answerCell 3 (some .int))) B.pre
  have hown : s.vm.findClass RX11 = some m.cls := findClass_of_methodNamed B.named
  have hlocks := B.notSynchronized
  subst hsz
  have hD := hD0.self (sz := s.heap.size)
  generalize hAe : va_A (cs_t_X11_answerCell_0 cB cI cJ cZ h0 hQ v0 v3 v6 v7 v8 v9 v10 v12 v13 v15 ts lf ct ar x y) s.heap.size = A at hD ⊢
  have hA : ∀ q : Nat, s.heap.size ≤ q → A q := fun q h => by rw [← hAe]; exact Or.inr h
  have hS : va_S A s.heap s.heap [] := va_S.rf
  have hP : va_P (dC, dI) vwCl [(h0, .inr (12, [v0, .int ts, .ref hQ, v3, .int lf, .null, v6, v7, v8, v9, v10, .int 0, v12, v13, .int ct, v15]))] s.heap := hP
  have hl := lv_entry ([.ref h0, .int x, .int y]) (n := 3) (Nat.le_of_ble_eq_true rfl)
  rw [lg_entry_eq]
  generalize (lg_sl ([.ref h0, .int x, .int y]) ++ List.replicate (3 - (lg_sl ([.ref h0, .int x, .int y])).length) Slot.unset).toArray = ls at hl ⊢
  have hl : lv_has ls 3 [(0, .ref h0), (1, .int x), (2, .int y)] := hl
  refine lv_iload_n hx hb dX11_answerCell_0 rfl (lv_at hl 1 rfl) ?_
  refine lv_if_lt (tgt := 24) hx hb dX11_answerCell_1 (by decide) (fun c_1 => ?_) (fun c_1 => ?_)
  · skip
    refine lv_iconst (v := (-1)) hx hb dX11_answerCell_24 (by decide) ?_
    have hP9 := hP.sub (ws' := [(h0, .inr (12, [v0, .int ts, .ref hQ, v3, .int lf, .null, v6, v7, v8, v9, v10, .int 0, v12, v13, .int ct, v15]))]) [0] rfl
    have hD9 := hD.sub (ws' := [(h0, .inr (12, [v0, .int ts, .ref hQ, v3, .int lf, .null, v6, v7, v8, v9, v10, .int 0, v12, v13, .int ct, v15]))]) [0] (by decide) rfl
    have hK9 := hK.sub (tys' := [(cB, .byte), (cI, .int), (cJ, .long), (cZ, .boolean)]) [0, 1, 2, 3] rfl
    exact W.iret (v := (-1)) hx hb hr (fun t_ ht hW => ⟨⟨(-1), (), rfl, rfl, by rw [ht]; exact hP9, va_K.moved hW.alike hK9, hD9⟩, hS.F ht⟩) hS.2.2 dX11_answerCell_25
  · skip
    refine lv_iload_n hx hb dX11_answerCell_4 rfl (lv_at hl 1 rfl) ?_
    refine lv_aload_n hx hb dX11_answerCell_5 rfl (lv_at hl 0 rfl) ?_
    refine va_get (D := (dC, dI)) (ci := 12) (v := .int 0) (C := RX11) (T := TX11) (N := 16) hx hb hts (fun w h => List.mem_cons_of_mem _ (uG_X11 w h)) hown hK hP 0 rfl rfl 11 (by decide) (hts _ (List.mem_cons_of_mem _ kw_439)) (fun _ h9 => h9) rfl dX11_answerCell_6 ?_
    refine lv_icmp_ge (tgt := 24) hx hb dX11_answerCell_9 (by decide) (fun c_2 => ?_) (fun c_2 => ?_)
    · skip
      refine lv_iconst (v := (-1)) hx hb dX11_answerCell_24 (by decide) ?_
      have hP9 := hP.sub (ws' := [(h0, .inr (12, [v0, .int ts, .ref hQ, v3, .int lf, .null, v6, v7, v8, v9, v10, .int 0, v12, v13, .int ct, v15]))]) [0] rfl
      have hD9 := hD.sub (ws' := [(h0, .inr (12, [v0, .int ts, .ref hQ, v3, .int lf, .null, v6, v7, v8, v9, v10, .int 0, v12, v13, .int ct, v15]))]) [0] (by decide) rfl
      have hK9 := hK.sub (tys' := [(cB, .byte), (cI, .int), (cJ, .long), (cZ, .boolean)]) [0, 1, 2, 3] rfl
      exact W.iret (v := (-1)) hx hb hr (fun t_ ht hW => ⟨⟨(-1), (), rfl, rfl, by rw [ht]; exact hP9, va_K.moved hW.alike hK9, hD9⟩, hS.F ht⟩) hS.2.2 dX11_answerCell_25
    · skip
      exact absurd (Int32.not_lt.mp c_1) c_2
theorem dX11_at_0 : decode cX11_at 0 = .ok (.aload_n 0, 1) := by decide +kernel
theorem dX11_at_1 : decode cX11_at 1 = .ok (.iload_n 1, 1) := by decide +kernel
theorem dX11_at_2 : decode cX11_at 2 = .ok (.iload_n 2, 1) := by decide +kernel
theorem dX11_at_3 : decode cX11_at 3 = .ok (.invokevirtual 165, 3) := by decide +kernel
theorem dX11_at_6 : decode cX11_at 6 = .ok (.istore_n 3, 1) := by decide +kernel
theorem dX11_at_7 : decode cX11_at 7 = .ok (.iload_n 3, 1) := by decide +kernel
theorem dX11_at_8 : decode cX11_at 8 = .ok (.ifCond .ge 7, 3) := by decide +kernel
theorem dX11_at_11 : decode cX11_at 11 = .ok (.lconst 0, 1) := by decide +kernel
theorem dX11_at_12 : decode cX11_at 12 = .ok (.goto 11, 3) := by decide +kernel
theorem dX11_at_23 : decode cX11_at 23 = .ok (.lreturn, 1) := by decide +kernel
abbrev cs_t_X11_at_0 (cB cI cJ cZ : ClassId) (h0 hQ : Nat) (v0 v3 v6 v7 v8 v9 v10 v12 v13 v15 : Value) (ts lf : Int32) (ct ar : Int32) (x y : Int32) : va_W := [(h0, .inr (12, [v0, .int ts, .ref hQ, v3, .int lf, .null, v6, v7, v8, v9, v10, .int 0, v12, v13, .int ct, v15]))]
abbrev pc_t_X11_at_0 (dC : Nat → ClassId) (dI : Nat → Nat → Nat) (sz : Nat) (cB cI cJ cZ : ClassId) (h0 hQ : Nat) (v0 v3 v6 v7 v8 v9 v10 v12 v13 v15 : Value) (ts lf : Int32) (ct ar : Int32) (x y : Int32) : Array Value → State → Prop := va_Pc [.ref h0, .int x, .int y] (fun U => U.heap.size = sz ∧ va_P (dC, dI) vwCl [(h0, .inr (12, [v0, .int ts, .ref hQ, v3, .int lf, .null, v6, v7, v8, v9, v10, .int 0, v12, v13, .int ct, v15]))] U.heap ∧ va_K (dC, dI) vwCl [(cB, .byte), (cI, .int), (cJ, .long), (cZ, .boolean)] U ∧ va_D (fun _ => True) [(h0, .inr (12, [v0, .int ts, .ref hQ, v3, .int lf, .null, v6, v7, v8, v9, v10, .int 0, v12, v13, .int ct, v15]))])
abbrev qc_t_X11_at_0 (dC : Nat → ClassId) (dI : Nat → Nat → Nat) (cB cI cJ cZ : ClassId) (h0 hQ : Nat) (v0 v3 v6 v7 v8 v9 v10 v12 v13 v15 : Value) (ts lf : Int32) (ct ar : Int32) (x y : Int32) (A : Nat → Prop) : Array Value → State → Outcome → State → Prop := va_Ql (fun (r : Int64) (u : Unit) => match u with | _ => r = 0) (fun (u : Unit) t_ => match u with | _ => va_P (dC, dI) vwCl [(h0, .inr (12, [v0, .int ts, .ref hQ, v3, .int lf, .null, v6, v7, v8, v9, v10, .int 0, v12, v13, .int ct, v15]))] t_.heap ∧ va_K (dC, dI) vwCl [(cB, .byte), (cI, .int), (cJ, .long), (cZ, .boolean)] t_ ∧ va_D A [(h0, .inr (12, [v0, .int ts, .ref hQ, v3, .int lf, .null, v6, v7, v8, v9, v10, .int 0, v12, v13, .int ct, v15]))]) A
set_option maxHeartbeats 4000000 in
set_option maxRecDepth 100000 in
theorem t_X11_at_0 (l : Launch) (dC : Nat → ClassId) (dI : Nat → Nat → Nat) (sz : Nat) (cB cI cJ cZ : ClassId) (h0 hQ : Nat) (v0 v3 v6 v7 v8 v9 v10 v12 v13 v15 : Value) (ts lf : Int32) (ct ar : Int32) (x y : Int32)  : Met l yX11_at (wsOf yX11_at cX11_at 4 (some .long)) ({ frames := 1, cells := 0, slots := 0, locals := 60 }) (pc_t_X11_at_0 dC dI sz cB cI cJ cZ h0 hQ v0 v3 v6 v7 v8 v9 v10 v12 v13 v15 ts lf ct ar x y) (qc_t_X11_at_0 dC dI cB cI cJ cZ h0 hQ v0 v3 v6 v7 v8 v9 v10 v12 v13 v15 ts lf ct ar x y (va_A (cs_t_X11_at_0 cB cI cJ cZ h0 hQ v0 v3 v6 v7 v8 v9 v10 v12 v13 v15 ts lf ct ar x y) sz)) 0 0 (va_A (cs_t_X11_at_0 cB cI cJ cZ h0 hQ v0 v3 v6 v7 v8 v9 v10 v12 v13 v15 ts lf ct ar x y) sz) := by
  refine Met.ofW (cc := cX11_at) (maxL := 4) (ret := (some .long)) (by decide) rfl ?_
  intro p e s m args below meth c s₁ B hml hv
  obtain ⟨rfl, hsz, hP, hK, hD0⟩ := hv
  have hx := B.exec
  have hb := B.bytes
  have hr := B.returns
  have hts := atoms_spec (ws := (wsOf yX11_at cX11_at 4 (some .long))) B.pre
  have hown : s.vm.findClass RX11 = some m.cls := findClass_of_methodNamed B.named
  have hlocks := B.notSynchronized
  subst hsz
  have hD := hD0.self (sz := s.heap.size)
  generalize hAe : va_A (cs_t_X11_at_0 cB cI cJ cZ h0 hQ v0 v3 v6 v7 v8 v9 v10 v12 v13 v15 ts lf ct ar x y) s.heap.size = A at hD ⊢
  have hA : ∀ q : Nat, s.heap.size ≤ q → A q := fun q h => by rw [← hAe]; exact Or.inr h
  have hS : va_S A s.heap s.heap [] := va_S.rf
  have hP : va_P (dC, dI) vwCl [(h0, .inr (12, [v0, .int ts, .ref hQ, v3, .int lf, .null, v6, v7, v8, v9, v10, .int 0, v12, v13, .int ct, v15]))] s.heap := hP
  have hl := lv_entry ([.ref h0, .int x, .int y]) (n := 4) (Nat.le_of_ble_eq_true rfl)
  rw [lg_entry_eq]
  generalize (lg_sl ([.ref h0, .int x, .int y]) ++ List.replicate (4 - (lg_sl ([.ref h0, .int x, .int y])).length) Slot.unset).toArray = ls at hl ⊢
  have hl : lv_has ls 4 [(0, .ref h0), (1, .int x), (2, .int y)] := hl
  refine lv_aload_n hx hb dX11_at_0 rfl (lv_at hl 0 rfl) ?_
  refine lv_iload_n hx hb dX11_at_1 rfl (lv_at hl 1 rfl) ?_
  refine lv_iload_n hx hb dX11_at_2 rfl (lv_at hl 2 rfl) ?_
  have hPc := hP.sub (ws' := [(h0, .inr (12, [v0, .int ts, .ref hQ, v3, .int lf, .null, v6, v7, v8, v9, v10, .int 0, v12, v13, .int ct, v15]))]) [0] rfl
  have hDc := hD.sub (ws' := [(h0, .inr (12, [v0, .int ts, .ref hQ, v3, .int lf, .null, v6, v7, v8, v9, v10, .int 0, v12, v13, .int ct, v15]))]) [0] (by decide) rfl
  have hKc := hK.sub (tys' := [(cB, .byte), (cI, .int), (cJ, .long), (cZ, .boolean)]) [0, 1, 2, 3] rfl
  have hFc := va_free (wc := [(h0, .inr (12, [v0, .int ts, .ref hQ, v3, .int lf, .null, v6, v7, v8, v9, v10, .int 0, v12, v13, .int ct, v15]))]) hD hS hA [0] rfl
  refine va_calli (va_runV (As := [.int x, .int y]) (rest := []) ⟨hx, hb, hml, hown, hts⟩ (t_X11_answerCell_0 l dC dI s.heap.size cB cI cJ cZ h0 hQ v0 v3 v6 v7 v8 v9 v10 v12 v13 v15 ts lf ct ar x y) (cwV 2 hts (gd_all (in_V kw_1639 kw_1641 kw_95 kw_181 kc_X11_answerCell)) rfl rfl rfl (by decide +kernel) ⟨Nat.le_of_ble_eq_true rfl, Nat.le_of_ble_eq_true rfl⟩) ⟨fun a U g mk q => by obtain ⟨q0, q1, qP, qK, qD⟩ := q; exact ⟨q0, q1, qP, va_K.moved (u := U) (U := U.calling g mk a) (Vm.Alike.refl U.vm) qK, qD⟩, va_recv hKc hPc (ci := 12) (q0 := 0) rfl rfl, fun U hU hW => ⟨rfl, by rw [hU], by rw [hU]; exact hPc, va_K.moved hW.alike hKc, hDc.weaken (fun _ _ _ _ => trivial)⟩⟩ rfl rfl hl.1 rfl (lv_room (Nat.le_of_ble_eq_true rfl)) dX11_at_3 ⟨Nat.le_of_ble_eq_true rfl, Nat.le_of_ble_eq_true rfl⟩) hS (fun q _ h => hFc q h) hFc (fun r_1 u t_ H1 locs ht hvm hw hB hz1 hk1 hS => ?_)
  obtain ⟨hP1, hK1, hD1⟩ := hB
  rw [ht] at hP1
  have hK1 := va_K.moved hvm.symm hK1
  obtain ⟨hP, hD⟩ := va_join (wr := []) (w1 := [(h0, .inr (12, [v0, .int ts, .ref hQ, v3, .int lf, .null, v6, v7, v8, v9, v10, .int 0, v12, v13, .int ct, v15]))]) hP hD [0] [] rfl rfl (by decide) (by decide) hk1 hFc hP1 hD1
  have hK := (hK.sub (tys' := []) [] rfl).app hK1
  generalize H1 = H at hP hS ⊢
  have hP : va_P (dC, dI) vwCl [(h0, .inr (12, [v0, .int ts, .ref hQ, v3, .int lf, .null, v6, v7, v8, v9, v10, .int 0, v12, v13, .int ct, v15]))] H := hP
  have hD : va_D A [(h0, .inr (12, [v0, .int ts, .ref hQ, v3, .int lf, .null, v6, v7, v8, v9, v10, .int 0, v12, v13, .int ct, v15]))] := hD
  have hK : va_K (dC, dI) vwCl [(cB, .byte), (cI, .int), (cJ, .long), (cZ, .boolean)] s := hK
  have er_1 : r_1 = (-1) := hw
  rw [er_1]
  refine lv_istore_n (lv' := [(3, .int (-1)), (0, .ref h0), (1, .int x), (2, .int y)]) hx hb dX11_at_6 rfl hl (by decide) rfl (fun ls hl => ?_)
  refine lv_iload_n hx hb dX11_at_7 rfl (lv_at hl 0 rfl) ?_
  refine lv_if_ge (tgt := 15) hx hb dX11_at_8 (by decide) (fun c_2 => ?_) (fun c_2 => ?_)
  · skip
    exact absurd c_2 (by decide)
  · skip
    refine lv_lconst (v := 0) hx hb dX11_at_11 (by decide) ?_
    refine lv_goto (tgt := 23) hx hb dX11_at_12 (by decide) ?_
    have hP9 := hP.sub (ws' := [(h0, .inr (12, [v0, .int ts, .ref hQ, v3, .int lf, .null, v6, v7, v8, v9, v10, .int 0, v12, v13, .int ct, v15]))]) [0] rfl
    have hD9 := hD.sub (ws' := [(h0, .inr (12, [v0, .int ts, .ref hQ, v3, .int lf, .null, v6, v7, v8, v9, v10, .int 0, v12, v13, .int ct, v15]))]) [0] (by decide) rfl
    have hK9 := hK.sub (tys' := [(cB, .byte), (cI, .int), (cJ, .long), (cZ, .boolean)]) [0, 1, 2, 3] rfl
    exact W.lret (v := 0) hx hb hr (fun t_ ht hW => ⟨⟨0, (), rfl, rfl, by rw [ht]; exact hP9, va_K.moved hW.alike hK9, hD9⟩, hS.F ht⟩) hS.2.2 dX11_at_23
theorem dX11_isNull_0 : decode cX11_isNull 0 = .ok (.aload_n 0, 1) := by decide +kernel
theorem dX11_isNull_1 : decode cX11_isNull 1 = .ok (.iload_n 1, 1) := by decide +kernel
theorem dX11_isNull_2 : decode cX11_isNull 2 = .ok (.iload_n 2, 1) := by decide +kernel
theorem dX11_isNull_3 : decode cX11_isNull 3 = .ok (.invokevirtual 165, 3) := by decide +kernel
theorem dX11_isNull_6 : decode cX11_isNull 6 = .ok (.istore_n 3, 1) := by decide +kernel
theorem dX11_isNull_7 : decode cX11_isNull 7 = .ok (.iload_n 3, 1) := by decide +kernel
theorem dX11_isNull_8 : decode cX11_isNull 8 = .ok (.ifCond .lt 18, 3) := by decide +kernel
theorem dX11_isNull_26 : decode cX11_isNull 26 = .ok (.iconst 0, 1) := by decide +kernel
theorem dX11_isNull_27 : decode cX11_isNull 27 = .ok (.ireturn, 1) := by decide +kernel
abbrev cs_t_X11_isNull_0 (cB cI cJ cZ : ClassId) (h0 hQ : Nat) (v0 v3 v6 v7 v8 v9 v10 v12 v13 v15 : Value) (ts lf : Int32) (ct ar : Int32) (x y : Int32) : va_W := [(h0, .inr (12, [v0, .int ts, .ref hQ, v3, .int lf, .null, v6, v7, v8, v9, v10, .int 0, v12, v13, .int ct, v15]))]
abbrev pc_t_X11_isNull_0 (dC : Nat → ClassId) (dI : Nat → Nat → Nat) (sz : Nat) (cB cI cJ cZ : ClassId) (h0 hQ : Nat) (v0 v3 v6 v7 v8 v9 v10 v12 v13 v15 : Value) (ts lf : Int32) (ct ar : Int32) (x y : Int32) : Array Value → State → Prop := va_Pc [.ref h0, .int x, .int y] (fun U => U.heap.size = sz ∧ va_P (dC, dI) vwCl [(h0, .inr (12, [v0, .int ts, .ref hQ, v3, .int lf, .null, v6, v7, v8, v9, v10, .int 0, v12, v13, .int ct, v15]))] U.heap ∧ va_K (dC, dI) vwCl [(cB, .byte), (cI, .int), (cJ, .long), (cZ, .boolean)] U ∧ va_D (fun _ => True) [(h0, .inr (12, [v0, .int ts, .ref hQ, v3, .int lf, .null, v6, v7, v8, v9, v10, .int 0, v12, v13, .int ct, v15]))])
abbrev qc_t_X11_isNull_0 (dC : Nat → ClassId) (dI : Nat → Nat → Nat) (cB cI cJ cZ : ClassId) (h0 hQ : Nat) (v0 v3 v6 v7 v8 v9 v10 v12 v13 v15 : Value) (ts lf : Int32) (ct ar : Int32) (x y : Int32) (A : Nat → Prop) : Array Value → State → Outcome → State → Prop := va_Qi (fun (r : Int32) (u : Unit) => match u with | _ => r = 0) (fun (u : Unit) t_ => match u with | _ => va_P (dC, dI) vwCl [(h0, .inr (12, [v0, .int ts, .ref hQ, v3, .int lf, .null, v6, v7, v8, v9, v10, .int 0, v12, v13, .int ct, v15]))] t_.heap ∧ va_K (dC, dI) vwCl [(cB, .byte), (cI, .int), (cJ, .long), (cZ, .boolean)] t_ ∧ va_D A [(h0, .inr (12, [v0, .int ts, .ref hQ, v3, .int lf, .null, v6, v7, v8, v9, v10, .int 0, v12, v13, .int ct, v15]))]) A
set_option maxHeartbeats 4000000 in
set_option maxRecDepth 100000 in
theorem t_X11_isNull_0 (l : Launch) (dC : Nat → ClassId) (dI : Nat → Nat → Nat) (sz : Nat) (cB cI cJ cZ : ClassId) (h0 hQ : Nat) (v0 v3 v6 v7 v8 v9 v10 v12 v13 v15 : Value) (ts lf : Int32) (ct ar : Int32) (x y : Int32)  : Met l yX11_isNull (wsOf yX11_isNull cX11_isNull 4 (some .boolean)) ({ frames := 1, cells := 0, slots := 0, locals := 60 }) (pc_t_X11_isNull_0 dC dI sz cB cI cJ cZ h0 hQ v0 v3 v6 v7 v8 v9 v10 v12 v13 v15 ts lf ct ar x y) (qc_t_X11_isNull_0 dC dI cB cI cJ cZ h0 hQ v0 v3 v6 v7 v8 v9 v10 v12 v13 v15 ts lf ct ar x y (va_A (cs_t_X11_isNull_0 cB cI cJ cZ h0 hQ v0 v3 v6 v7 v8 v9 v10 v12 v13 v15 ts lf ct ar x y) sz)) 0 0 (va_A (cs_t_X11_isNull_0 cB cI cJ cZ h0 hQ v0 v3 v6 v7 v8 v9 v10 v12 v13 v15 ts lf ct ar x y) sz) := by
  refine Met.ofW (cc := cX11_isNull) (maxL := 4) (ret := (some .boolean)) (by decide) rfl ?_
  intro p e s m args below meth c s₁ B hml hv
  obtain ⟨rfl, hsz, hP, hK, hD0⟩ := hv
  have hx := B.exec
  have hb := B.bytes
  have hr := B.returns
  have hts := atoms_spec (ws := (wsOf yX11_isNull cX11_isNull 4 (some .boolean))) B.pre
  have hown : s.vm.findClass RX11 = some m.cls := findClass_of_methodNamed B.named
  have hlocks := B.notSynchronized
  subst hsz
  have hD := hD0.self (sz := s.heap.size)
  generalize hAe : va_A (cs_t_X11_isNull_0 cB cI cJ cZ h0 hQ v0 v3 v6 v7 v8 v9 v10 v12 v13 v15 ts lf ct ar x y) s.heap.size = A at hD ⊢
  have hA : ∀ q : Nat, s.heap.size ≤ q → A q := fun q h => by rw [← hAe]; exact Or.inr h
  have hS : va_S A s.heap s.heap [] := va_S.rf
  have hP : va_P (dC, dI) vwCl [(h0, .inr (12, [v0, .int ts, .ref hQ, v3, .int lf, .null, v6, v7, v8, v9, v10, .int 0, v12, v13, .int ct, v15]))] s.heap := hP
  have hl := lv_entry ([.ref h0, .int x, .int y]) (n := 4) (Nat.le_of_ble_eq_true rfl)
  rw [lg_entry_eq]
  generalize (lg_sl ([.ref h0, .int x, .int y]) ++ List.replicate (4 - (lg_sl ([.ref h0, .int x, .int y])).length) Slot.unset).toArray = ls at hl ⊢
  have hl : lv_has ls 4 [(0, .ref h0), (1, .int x), (2, .int y)] := hl
  refine lv_aload_n hx hb dX11_isNull_0 rfl (lv_at hl 0 rfl) ?_
  refine lv_iload_n hx hb dX11_isNull_1 rfl (lv_at hl 1 rfl) ?_
  refine lv_iload_n hx hb dX11_isNull_2 rfl (lv_at hl 2 rfl) ?_
  have hPc := hP.sub (ws' := [(h0, .inr (12, [v0, .int ts, .ref hQ, v3, .int lf, .null, v6, v7, v8, v9, v10, .int 0, v12, v13, .int ct, v15]))]) [0] rfl
  have hDc := hD.sub (ws' := [(h0, .inr (12, [v0, .int ts, .ref hQ, v3, .int lf, .null, v6, v7, v8, v9, v10, .int 0, v12, v13, .int ct, v15]))]) [0] (by decide) rfl
  have hKc := hK.sub (tys' := [(cB, .byte), (cI, .int), (cJ, .long), (cZ, .boolean)]) [0, 1, 2, 3] rfl
  have hFc := va_free (wc := [(h0, .inr (12, [v0, .int ts, .ref hQ, v3, .int lf, .null, v6, v7, v8, v9, v10, .int 0, v12, v13, .int ct, v15]))]) hD hS hA [0] rfl
  refine va_calli (va_runV (As := [.int x, .int y]) (rest := []) ⟨hx, hb, hml, hown, hts⟩ (t_X11_answerCell_0 l dC dI s.heap.size cB cI cJ cZ h0 hQ v0 v3 v6 v7 v8 v9 v10 v12 v13 v15 ts lf ct ar x y) (cwV 2 hts (gd_all (in_V kw_1639 kw_1641 kw_95 kw_181 kc_X11_answerCell)) rfl rfl rfl (by decide +kernel) ⟨Nat.le_of_ble_eq_true rfl, Nat.le_of_ble_eq_true rfl⟩) ⟨fun a U g mk q => by obtain ⟨q0, q1, qP, qK, qD⟩ := q; exact ⟨q0, q1, qP, va_K.moved (u := U) (U := U.calling g mk a) (Vm.Alike.refl U.vm) qK, qD⟩, va_recv hKc hPc (ci := 12) (q0 := 0) rfl rfl, fun U hU hW => ⟨rfl, by rw [hU], by rw [hU]; exact hPc, va_K.moved hW.alike hKc, hDc.weaken (fun _ _ _ _ => trivial)⟩⟩ rfl rfl hl.1 rfl (lv_room (Nat.le_of_ble_eq_true rfl)) dX11_isNull_3 ⟨Nat.le_of_ble_eq_true rfl, Nat.le_of_ble_eq_true rfl⟩) hS (fun q _ h => hFc q h) hFc (fun r_1 u t_ H1 locs ht hvm hw hB hz1 hk1 hS => ?_)
  obtain ⟨hP1, hK1, hD1⟩ := hB
  rw [ht] at hP1
  have hK1 := va_K.moved hvm.symm hK1
  obtain ⟨hP, hD⟩ := va_join (wr := []) (w1 := [(h0, .inr (12, [v0, .int ts, .ref hQ, v3, .int lf, .null, v6, v7, v8, v9, v10, .int 0, v12, v13, .int ct, v15]))]) hP hD [0] [] rfl rfl (by decide) (by decide) hk1 hFc hP1 hD1
  have hK := (hK.sub (tys' := []) [] rfl).app hK1
  generalize H1 = H at hP hS ⊢
  have hP : va_P (dC, dI) vwCl [(h0, .inr (12, [v0, .int ts, .ref hQ, v3, .int lf, .null, v6, v7, v8, v9, v10, .int 0, v12, v13, .int ct, v15]))] H := hP
  have hD : va_D A [(h0, .inr (12, [v0, .int ts, .ref hQ, v3, .int lf, .null, v6, v7, v8, v9, v10, .int 0, v12, v13, .int ct, v15]))] := hD
  have hK : va_K (dC, dI) vwCl [(cB, .byte), (cI, .int), (cJ, .long), (cZ, .boolean)] s := hK
  have er_1 : r_1 = (-1) := hw
  rw [er_1]
  refine lv_istore_n (lv' := [(3, .int (-1)), (0, .ref h0), (1, .int x), (2, .int y)]) hx hb dX11_isNull_6 rfl hl (by decide) rfl (fun ls hl => ?_)
  refine lv_iload_n hx hb dX11_isNull_7 rfl (lv_at hl 0 rfl) ?_
  refine lv_if_lt (tgt := 26) hx hb dX11_isNull_8 (by decide) (fun c_2 => ?_) (fun c_2 => ?_)
  · skip
    refine lv_iconst (v := 0) hx hb dX11_isNull_26 (by decide) ?_
    have hP9 := hP.sub (ws' := [(h0, .inr (12, [v0, .int ts, .ref hQ, v3, .int lf, .null, v6, v7, v8, v9, v10, .int 0, v12, v13, .int ct, v15]))]) [0] rfl
    have hD9 := hD.sub (ws' := [(h0, .inr (12, [v0, .int ts, .ref hQ, v3, .int lf, .null, v6, v7, v8, v9, v10, .int 0, v12, v13, .int ct, v15]))]) [0] (by decide) rfl
    have hK9 := hK.sub (tys' := [(cB, .byte), (cI, .int), (cJ, .long), (cZ, .boolean)]) [0, 1, 2, 3] rfl
    exact W.zret (v := 0) hx hb hr (by rfl) (fun t_ ht hW => ⟨⟨0, (), rfl, rfl, by rw [ht]; exact hP9, va_K.moved hW.alike hK9, hD9⟩, hS.F ht⟩) hS.2.2 dX11_isNull_27
  · skip
    exact absurd c_2 (by decide)
theorem dX11_type_0 : decode cX11_type 0 = .ok (.aload_n 0, 1) := by decide +kernel
theorem dX11_type_1 : decode cX11_type 1 = .ok (.getfield 107, 3) := by decide +kernel
theorem dX11_type_4 : decode cX11_type 4 = .ok (.ifnonnull 7, 3) := by decide +kernel
theorem dX11_type_7 : decode cX11_type 7 = .ok (.iconst 0, 1) := by decide +kernel
theorem dX11_type_8 : decode cX11_type 8 = .ok (.goto 11, 3) := by decide +kernel
theorem dX11_type_19 : decode cX11_type 19 = .ok (.ireturn, 1) := by decide +kernel
abbrev cs_t_X11_type_0 (cB cI cJ cZ : ClassId) (h0 hQ : Nat) (v0 v3 v6 v7 v8 v9 v10 v12 v13 v15 : Value) (ts lf : Int32) (ct ar : Int32) (x : Int32) : va_W := [(h0, .inr (12, [v0, .int ts, .ref hQ, v3, .int lf, .null, v6, v7, v8, v9, v10, .int ar, v12, v13, .int ct, v15]))]
abbrev pc_t_X11_type_0 (dC : Nat → ClassId) (dI : Nat → Nat → Nat) (sz : Nat) (cB cI cJ cZ : ClassId) (h0 hQ : Nat) (v0 v3 v6 v7 v8 v9 v10 v12 v13 v15 : Value) (ts lf : Int32) (ct ar : Int32) (x : Int32) : Array Value → State → Prop := va_Pc [.ref h0, .int x] (fun U => U.heap.size = sz ∧ va_P (dC, dI) vwCl [(h0, .inr (12, [v0, .int ts, .ref hQ, v3, .int lf, .null, v6, v7, v8, v9, v10, .int ar, v12, v13, .int ct, v15]))] U.heap ∧ va_K (dC, dI) vwCl [(cB, .byte), (cI, .int), (cJ, .long), (cZ, .boolean)] U ∧ va_D (fun _ => True) [(h0, .inr (12, [v0, .int ts, .ref hQ, v3, .int lf, .null, v6, v7, v8, v9, v10, .int ar, v12, v13, .int ct, v15]))])
abbrev qc_t_X11_type_0 (dC : Nat → ClassId) (dI : Nat → Nat → Nat) (cB cI cJ cZ : ClassId) (h0 hQ : Nat) (v0 v3 v6 v7 v8 v9 v10 v12 v13 v15 : Value) (ts lf : Int32) (ct ar : Int32) (x : Int32) (A : Nat → Prop) : Array Value → State → Outcome → State → Prop := va_Qi (fun (r : Int32) (u : Unit) => match u with | _ => r = 0) (fun (u : Unit) t_ => match u with | _ => va_P (dC, dI) vwCl [(h0, .inr (12, [v0, .int ts, .ref hQ, v3, .int lf, .null, v6, v7, v8, v9, v10, .int ar, v12, v13, .int ct, v15]))] t_.heap ∧ va_K (dC, dI) vwCl [(cB, .byte), (cI, .int), (cJ, .long), (cZ, .boolean)] t_ ∧ va_D A [(h0, .inr (12, [v0, .int ts, .ref hQ, v3, .int lf, .null, v6, v7, v8, v9, v10, .int ar, v12, v13, .int ct, v15]))]) A
set_option maxHeartbeats 4000000 in
set_option maxRecDepth 100000 in
theorem t_X11_type_0 (l : Launch) (dC : Nat → ClassId) (dI : Nat → Nat → Nat) (sz : Nat) (cB cI cJ cZ : ClassId) (h0 hQ : Nat) (v0 v3 v6 v7 v8 v9 v10 v12 v13 v15 : Value) (ts lf : Int32) (ct ar : Int32) (x : Int32)  : Met l yX11_type (wsOf yX11_type cX11_type 2 (some .int)) ({ frames := 0, cells := 0, slots := 0, locals := 0 }) (pc_t_X11_type_0 dC dI sz cB cI cJ cZ h0 hQ v0 v3 v6 v7 v8 v9 v10 v12 v13 v15 ts lf ct ar x) (qc_t_X11_type_0 dC dI cB cI cJ cZ h0 hQ v0 v3 v6 v7 v8 v9 v10 v12 v13 v15 ts lf ct ar x (va_A (cs_t_X11_type_0 cB cI cJ cZ h0 hQ v0 v3 v6 v7 v8 v9 v10 v12 v13 v15 ts lf ct ar x) sz)) 0 0 (va_A (cs_t_X11_type_0 cB cI cJ cZ h0 hQ v0 v3 v6 v7 v8 v9 v10 v12 v13 v15 ts lf ct ar x) sz) := by
  refine Met.ofW (cc := cX11_type) (maxL := 2) (ret := (some .int)) (by decide) rfl ?_
  intro p e s m args below meth c s₁ B hml hv
  obtain ⟨rfl, hsz, hP, hK, hD0⟩ := hv
  have hx := B.exec
  have hb := B.bytes
  have hr := B.returns
  have hts := atoms_spec (ws := (wsOf yX11_type cX11_type 2 (some .int))) B.pre
  have hown : s.vm.findClass RX11 = some m.cls := findClass_of_methodNamed B.named
  have hlocks := B.notSynchronized
  subst hsz
  have hD := hD0.self (sz := s.heap.size)
  generalize hAe : va_A (cs_t_X11_type_0 cB cI cJ cZ h0 hQ v0 v3 v6 v7 v8 v9 v10 v12 v13 v15 ts lf ct ar x) s.heap.size = A at hD ⊢
  have hA : ∀ q : Nat, s.heap.size ≤ q → A q := fun q h => by rw [← hAe]; exact Or.inr h
  have hS : va_S A s.heap s.heap [] := va_S.rf
  have hP : va_P (dC, dI) vwCl [(h0, .inr (12, [v0, .int ts, .ref hQ, v3, .int lf, .null, v6, v7, v8, v9, v10, .int ar, v12, v13, .int ct, v15]))] s.heap := hP
  have hl := lv_entry ([.ref h0, .int x]) (n := 2) (Nat.le_of_ble_eq_true rfl)
  rw [lg_entry_eq]
  generalize (lg_sl ([.ref h0, .int x]) ++ List.replicate (2 - (lg_sl ([.ref h0, .int x])).length) Slot.unset).toArray = ls at hl ⊢
  have hl : lv_has ls 2 [(0, .ref h0), (1, .int x)] := hl
  refine lv_aload_n hx hb dX11_type_0 rfl (lv_at hl 0 rfl) ?_
  refine va_get (D := (dC, dI)) (ci := 12) (v := .null) (C := RX11) (T := TX11) (N := 16) hx hb hts (fun w h => List.mem_cons_of_mem _ (uG_X11 w h)) hown hK hP 0 rfl rfl 5 (by decide) (hts _ (List.mem_cons_of_mem _ kw_433)) (fun _ h9 => h9) rfl dX11_type_1 ?_
  refine lv_ifnonnullN hx hb dX11_type_4 ?_
  refine lv_iconst (v := 0) hx hb dX11_type_7 (by decide) ?_
  refine lv_goto (tgt := 19) hx hb dX11_type_8 (by decide) ?_
  have hP9 := hP.sub (ws' := [(h0, .inr (12, [v0, .int ts, .ref hQ, v3, .int lf, .null, v6, v7, v8, v9, v10, .int ar, v12, v13, .int ct, v15]))]) [0] rfl
  have hD9 := hD.sub (ws' := [(h0, .inr (12, [v0, .int ts, .ref hQ, v3, .int lf, .null, v6, v7, v8, v9, v10, .int ar, v12, v13, .int ct, v15]))]) [0] (by decide) rfl
  have hK9 := hK.sub (tys' := [(cB, .byte), (cI, .int), (cJ, .long), (cZ, .boolean)]) [0, 1, 2, 3] rfl
  exact W.iret (v := 0) hx hb hr (fun t_ ht hW => ⟨⟨0, (), rfl, rfl, by rw [ht]; exact hP9, va_K.moved hW.alike hK9, hD9⟩, hS.F ht⟩) hS.2.2 dX11_type_19
theorem dX11_told_0 : decode cX11_told 0 = .ok (.iload_n 1, 1) := by decide +kernel
theorem dX11_told_1 : decode cX11_told 1 = .ok (.tableswitch 132 0 5 #[39, 47, 55, 78, 100, 119], 39) := by decide +kernel
theorem dX11_told_40 : decode cX11_told 40 = .ok (.aload_n 0, 1) := by decide +kernel
theorem dX11_told_41 : decode cX11_told 41 = .ok (.getfield 16, 3) := by decide +kernel
theorem dX11_told_44 : decode cX11_told 44 = .ok (.getfield 179, 3) := by decide +kernel
theorem dX11_told_47 : decode cX11_told 47 = .ok (.ireturn, 1) := by decide +kernel
theorem dX11_told_48 : decode cX11_told 48 = .ok (.aload_n 0, 1) := by decide +kernel
theorem dX11_told_49 : decode cX11_told 49 = .ok (.getfield 16, 3) := by decide +kernel
theorem dX11_told_52 : decode cX11_told 52 = .ok (.invokevirtual 182, 3) := by decide +kernel
theorem dX11_told_55 : decode cX11_told 55 = .ok (.ireturn, 1) := by decide +kernel
theorem dX11_told_56 : decode cX11_told 56 = .ok (.aload_n 0, 1) := by decide +kernel
theorem dX11_told_57 : decode cX11_told 57 = .ok (.getfield 107, 3) := by decide +kernel
theorem dX11_told_60 : decode cX11_told 60 = .ok (.ifnonnull 7, 3) := by decide +kernel
theorem dX11_told_63 : decode cX11_told 63 = .ok (.iconst 0, 1) := by decide +kernel
theorem dX11_told_64 : decode cX11_told 64 = .ok (.goto 14, 3) := by decide +kernel
theorem dX11_told_78 : decode cX11_told 78 = .ok (.ireturn, 1) := by decide +kernel
theorem dX11_told_79 : decode cX11_told 79 = .ok (.aload_n 0, 1) := by decide +kernel
theorem dX11_told_80 : decode cX11_told 80 = .ok (.getfield 107, 3) := by decide +kernel
theorem dX11_told_83 : decode cX11_told 83 = .ok (.ifnonnull 7, 3) := by decide +kernel
theorem dX11_told_86 : decode cX11_told 86 = .ok (.iconst 0, 1) := by decide +kernel
theorem dX11_told_87 : decode cX11_told 87 = .ok (.goto 13, 3) := by decide +kernel
theorem dX11_told_100 : decode cX11_told 100 = .ok (.ireturn, 1) := by decide +kernel
theorem dX11_told_101 : decode cX11_told 101 = .ok (.aload_n 0, 1) := by decide +kernel
theorem dX11_told_102 : decode cX11_told 102 = .ok (.getfield 107, 3) := by decide +kernel
theorem dX11_told_105 : decode cX11_told 105 = .ok (.ifnonnull 7, 3) := by decide +kernel
theorem dX11_told_108 : decode cX11_told 108 = .ok (.iconst 0, 1) := by decide +kernel
theorem dX11_told_109 : decode cX11_told 109 = .ok (.goto 10, 3) := by decide +kernel
theorem dX11_told_119 : decode cX11_told 119 = .ok (.ireturn, 1) := by decide +kernel
theorem dX11_told_120 : decode cX11_told 120 = .ok (.aload_n 0, 1) := by decide +kernel
theorem dX11_told_121 : decode cX11_told 121 = .ok (.getfield 107, 3) := by decide +kernel
theorem dX11_told_124 : decode cX11_told 124 = .ok (.ifnonnull 7, 3) := by decide +kernel
theorem dX11_told_127 : decode cX11_told 127 = .ok (.iconst 0, 1) := by decide +kernel
theorem dX11_told_128 : decode cX11_told 128 = .ok (.goto 4, 3) := by decide +kernel
theorem dX11_told_132 : decode cX11_told 132 = .ok (.ireturn, 1) := by decide +kernel
theorem dX11_told_133 : decode cX11_told 133 = .ok (.iconst (-1), 1) := by decide +kernel
theorem dX11_told_134 : decode cX11_told 134 = .ok (.ireturn, 1) := by decide +kernel
abbrev cs_t_X11_told_2 (cB cI cJ cZ : ClassId) (h0 hQ : Nat) (v0 v3 v6 v7 v8 v9 v10 v12 v13 v15 : Value) (ts lf : Int32) (ct ar : Int32) : va_W := [(h0, .inr (12, [v0, .int ts, .ref hQ, v3, .int lf, .null, v6, v7, v8, v9, v10, .int ar, v12, v13, .int ct, v15]))]
abbrev pc_t_X11_told_2 (dC : Nat → ClassId) (dI : Nat → Nat → Nat) (sz : Nat) (cB cI cJ cZ : ClassId) (h0 hQ : Nat) (v0 v3 v6 v7 v8 v9 v10 v12 v13 v15 : Value) (ts lf : Int32) (ct ar : Int32) : Array Value → State → Prop := va_Pc [.ref h0, .int 2] (fun U => U.heap.size = sz ∧ va_P (dC, dI) vwCl [(h0, .inr (12, [v0, .int ts, .ref hQ, v3, .int lf, .null, v6, v7, v8, v9, v10, .int ar, v12, v13, .int ct, v15]))] U.heap ∧ va_K (dC, dI) vwCl [(cB, .byte), (cI, .int), (cJ, .long), (cZ, .boolean)] U ∧ va_D (fun _ => True) [(h0, .inr (12, [v0, .int ts, .ref hQ, v3, .int lf, .null, v6, v7, v8, v9, v10, .int ar, v12, v13, .int ct, v15]))])
abbrev qc_t_X11_told_2 (dC : Nat → ClassId) (dI : Nat → Nat → Nat) (cB cI cJ cZ : ClassId) (h0 hQ : Nat) (v0 v3 v6 v7 v8 v9 v10 v12 v13 v15 : Value) (ts lf : Int32) (ct ar : Int32) (A : Nat → Prop) : Array Value → State → Outcome → State → Prop := va_Qi (fun (r : Int32) (u : Unit) => match u with | _ => r = 0) (fun (u : Unit) t_ => match u with | _ => va_P (dC, dI) vwCl [(h0, .inr (12, [v0, .int ts, .ref hQ, v3, .int lf, .null, v6, v7, v8, v9, v10, .int ar, v12, v13, .int ct, v15]))] t_.heap ∧ va_K (dC, dI) vwCl [(cB, .byte), (cI, .int), (cJ, .long), (cZ, .boolean)] t_ ∧ va_D A [(h0, .inr (12, [v0, .int ts, .ref hQ, v3, .int lf, .null, v6, v7, v8, v9, v10, .int ar, v12, v13, .int ct, v15]))]) A
set_option maxHeartbeats 4000000 in
set_option maxRecDepth 100000 in
theorem t_X11_told_2 (l : Launch) (dC : Nat → ClassId) (dI : Nat → Nat → Nat) (sz : Nat) (cB cI cJ cZ : ClassId) (h0 hQ : Nat) (v0 v3 v6 v7 v8 v9 v10 v12 v13 v15 : Value) (ts lf : Int32) (ct ar : Int32)  : Met l yX11_told (wsOf yX11_told cX11_told 2 (some .int)) ({ frames := 0, cells := 0, slots := 0, locals := 0 }) (pc_t_X11_told_2 dC dI sz cB cI cJ cZ h0 hQ v0 v3 v6 v7 v8 v9 v10 v12 v13 v15 ts lf ct ar) (qc_t_X11_told_2 dC dI cB cI cJ cZ h0 hQ v0 v3 v6 v7 v8 v9 v10 v12 v13 v15 ts lf ct ar (va_A (cs_t_X11_told_2 cB cI cJ cZ h0 hQ v0 v3 v6 v7 v8 v9 v10 v12 v13 v15 ts lf ct ar) sz)) 0 0 (va_A (cs_t_X11_told_2 cB cI cJ cZ h0 hQ v0 v3 v6 v7 v8 v9 v10 v12 v13 v15 ts lf ct ar) sz) := by
  refine Met.ofW (cc := cX11_told) (maxL := 2) (ret := (some .int)) (by decide) rfl ?_
  intro p e s m args below meth c s₁ B hml hv
  obtain ⟨rfl, hsz, hP, hK, hD0⟩ := hv
  have hx := B.exec
  have hb := B.bytes
  have hr := B.returns
  have hts := atoms_spec (ws := (wsOf yX11_told cX11_told 2 (some .int))) B.pre
  have hown : s.vm.findClass RX11 = some m.cls := findClass_of_methodNamed B.named
  have hlocks := B.notSynchronized
  subst hsz
  have hD := hD0.self (sz := s.heap.size)
  generalize hAe : va_A (cs_t_X11_told_2 cB cI cJ cZ h0 hQ v0 v3 v6 v7 v8 v9 v10 v12 v13 v15 ts lf ct ar) s.heap.size = A at hD ⊢
  have hA : ∀ q : Nat, s.heap.size ≤ q → A q := fun q h => by rw [← hAe]; exact Or.inr h
  have hS : va_S A s.heap s.heap [] := va_S.rf
  have hP : va_P (dC, dI) vwCl [(h0, .inr (12, [v0, .int ts, .ref hQ, v3, .int lf, .null, v6, v7, v8, v9, v10, .int ar, v12, v13, .int ct, v15]))] s.heap := hP
  have hl := lv_entry ([.ref h0, .int 2]) (n := 2) (Nat.le_of_ble_eq_true rfl)
  rw [lg_entry_eq]
  generalize (lg_sl ([.ref h0, .int 2]) ++ List.replicate (2 - (lg_sl ([.ref h0, .int 2])).length) Slot.unset).toArray = ls at hl ⊢
  have hl : lv_has ls 2 [(0, .ref h0), (1, .int 2)] := hl
  refine lv_iload_n hx hb dX11_told_0 rfl (lv_at hl 1 rfl) ?_
  refine lv_tableIn (tgt := 56) (off := 55) hx hb dX11_told_1 (by decide) (by decide) (by decide) (by decide) ?_
  refine lv_aload_n hx hb dX11_told_56 rfl (lv_at hl 0 rfl) ?_
  refine va_get (D := (dC, dI)) (ci := 12) (v := .null) (C := RX11) (T := TX11) (N := 16) hx hb hts (fun w h => List.mem_cons_of_mem _ (uG_X11 w h)) hown hK hP 0 rfl rfl 5 (by decide) (hts _ (List.mem_cons_of_mem _ kw_433)) (fun _ h9 => h9) rfl dX11_told_57 ?_
  refine lv_ifnonnullN hx hb dX11_told_60 ?_
  refine lv_iconst (v := 0) hx hb dX11_told_63 (by decide) ?_
  refine lv_goto (tgt := 78) hx hb dX11_told_64 (by decide) ?_
  have hP9 := hP.sub (ws' := [(h0, .inr (12, [v0, .int ts, .ref hQ, v3, .int lf, .null, v6, v7, v8, v9, v10, .int ar, v12, v13, .int ct, v15]))]) [0] rfl
  have hD9 := hD.sub (ws' := [(h0, .inr (12, [v0, .int ts, .ref hQ, v3, .int lf, .null, v6, v7, v8, v9, v10, .int ar, v12, v13, .int ct, v15]))]) [0] (by decide) rfl
  have hK9 := hK.sub (tys' := [(cB, .byte), (cI, .int), (cJ, .long), (cZ, .boolean)]) [0, 1, 2, 3] rfl
  exact W.iret (v := 0) hx hb hr (fun t_ ht hW => ⟨⟨0, (), rfl, rfl, by rw [ht]; exact hP9, va_K.moved hW.alike hK9, hD9⟩, hS.F ht⟩) hS.2.2 dX11_told_78
abbrev cs_t_X11_told_3 (cB cI cJ cZ : ClassId) (h0 hQ : Nat) (v0 v3 v6 v7 v8 v9 v10 v12 v13 v15 : Value) (ts lf : Int32) (ct ar : Int32) : va_W := [(h0, .inr (12, [v0, .int ts, .ref hQ, v3, .int lf, .null, v6, v7, v8, v9, v10, .int ar, v12, v13, .int ct, v15]))]
abbrev pc_t_X11_told_3 (dC : Nat → ClassId) (dI : Nat → Nat → Nat) (sz : Nat) (cB cI cJ cZ : ClassId) (h0 hQ : Nat) (v0 v3 v6 v7 v8 v9 v10 v12 v13 v15 : Value) (ts lf : Int32) (ct ar : Int32) : Array Value → State → Prop := va_Pc [.ref h0, .int 3] (fun U => U.heap.size = sz ∧ va_P (dC, dI) vwCl [(h0, .inr (12, [v0, .int ts, .ref hQ, v3, .int lf, .null, v6, v7, v8, v9, v10, .int ar, v12, v13, .int ct, v15]))] U.heap ∧ va_K (dC, dI) vwCl [(cB, .byte), (cI, .int), (cJ, .long), (cZ, .boolean)] U ∧ va_D (fun _ => True) [(h0, .inr (12, [v0, .int ts, .ref hQ, v3, .int lf, .null, v6, v7, v8, v9, v10, .int ar, v12, v13, .int ct, v15]))])
abbrev qc_t_X11_told_3 (dC : Nat → ClassId) (dI : Nat → Nat → Nat) (cB cI cJ cZ : ClassId) (h0 hQ : Nat) (v0 v3 v6 v7 v8 v9 v10 v12 v13 v15 : Value) (ts lf : Int32) (ct ar : Int32) (A : Nat → Prop) : Array Value → State → Outcome → State → Prop := va_Qi (fun (r : Int32) (u : Unit) => match u with | _ => r = 0) (fun (u : Unit) t_ => match u with | _ => va_P (dC, dI) vwCl [(h0, .inr (12, [v0, .int ts, .ref hQ, v3, .int lf, .null, v6, v7, v8, v9, v10, .int ar, v12, v13, .int ct, v15]))] t_.heap ∧ va_K (dC, dI) vwCl [(cB, .byte), (cI, .int), (cJ, .long), (cZ, .boolean)] t_ ∧ va_D A [(h0, .inr (12, [v0, .int ts, .ref hQ, v3, .int lf, .null, v6, v7, v8, v9, v10, .int ar, v12, v13, .int ct, v15]))]) A
set_option maxHeartbeats 4000000 in
set_option maxRecDepth 100000 in
theorem t_X11_told_3 (l : Launch) (dC : Nat → ClassId) (dI : Nat → Nat → Nat) (sz : Nat) (cB cI cJ cZ : ClassId) (h0 hQ : Nat) (v0 v3 v6 v7 v8 v9 v10 v12 v13 v15 : Value) (ts lf : Int32) (ct ar : Int32)  : Met l yX11_told (wsOf yX11_told cX11_told 2 (some .int)) ({ frames := 0, cells := 0, slots := 0, locals := 0 }) (pc_t_X11_told_3 dC dI sz cB cI cJ cZ h0 hQ v0 v3 v6 v7 v8 v9 v10 v12 v13 v15 ts lf ct ar) (qc_t_X11_told_3 dC dI cB cI cJ cZ h0 hQ v0 v3 v6 v7 v8 v9 v10 v12 v13 v15 ts lf ct ar (va_A (cs_t_X11_told_3 cB cI cJ cZ h0 hQ v0 v3 v6 v7 v8 v9 v10 v12 v13 v15 ts lf ct ar) sz)) 0 0 (va_A (cs_t_X11_told_3 cB cI cJ cZ h0 hQ v0 v3 v6 v7 v8 v9 v10 v12 v13 v15 ts lf ct ar) sz) := by
  refine Met.ofW (cc := cX11_told) (maxL := 2) (ret := (some .int)) (by decide) rfl ?_
  intro p e s m args below meth c s₁ B hml hv
  obtain ⟨rfl, hsz, hP, hK, hD0⟩ := hv
  have hx := B.exec
  have hb := B.bytes
  have hr := B.returns
  have hts := atoms_spec (ws := (wsOf yX11_told cX11_told 2 (some .int))) B.pre
  have hown : s.vm.findClass RX11 = some m.cls := findClass_of_methodNamed B.named
  have hlocks := B.notSynchronized
  subst hsz
  have hD := hD0.self (sz := s.heap.size)
  generalize hAe : va_A (cs_t_X11_told_3 cB cI cJ cZ h0 hQ v0 v3 v6 v7 v8 v9 v10 v12 v13 v15 ts lf ct ar) s.heap.size = A at hD ⊢
  have hA : ∀ q : Nat, s.heap.size ≤ q → A q := fun q h => by rw [← hAe]; exact Or.inr h
  have hS : va_S A s.heap s.heap [] := va_S.rf
  have hP : va_P (dC, dI) vwCl [(h0, .inr (12, [v0, .int ts, .ref hQ, v3, .int lf, .null, v6, v7, v8, v9, v10, .int ar, v12, v13, .int ct, v15]))] s.heap := hP
  have hl := lv_entry ([.ref h0, .int 3]) (n := 2) (Nat.le_of_ble_eq_true rfl)
  rw [lg_entry_eq]
  generalize (lg_sl ([.ref h0, .int 3]) ++ List.replicate (2 - (lg_sl ([.ref h0, .int 3])).length) Slot.unset).toArray = ls at hl ⊢
  have hl : lv_has ls 2 [(0, .ref h0), (1, .int 3)] := hl
  refine lv_iload_n hx hb dX11_told_0 rfl (lv_at hl 1 rfl) ?_
  refine lv_tableIn (tgt := 79) (off := 78) hx hb dX11_told_1 (by decide) (by decide) (by decide) (by decide) ?_
  refine lv_aload_n hx hb dX11_told_79 rfl (lv_at hl 0 rfl) ?_
  refine va_get (D := (dC, dI)) (ci := 12) (v := .null) (C := RX11) (T := TX11) (N := 16) hx hb hts (fun w h => List.mem_cons_of_mem _ (uG_X11 w h)) hown hK hP 0 rfl rfl 5 (by decide) (hts _ (List.mem_cons_of_mem _ kw_433)) (fun _ h9 => h9) rfl dX11_told_80 ?_
  refine lv_ifnonnullN hx hb dX11_told_83 ?_
  refine lv_iconst (v := 0) hx hb dX11_told_86 (by decide) ?_
  refine lv_goto (tgt := 100) hx hb dX11_told_87 (by decide) ?_
  have hP9 := hP.sub (ws' := [(h0, .inr (12, [v0, .int ts, .ref hQ, v3, .int lf, .null, v6, v7, v8, v9, v10, .int ar, v12, v13, .int ct, v15]))]) [0] rfl
  have hD9 := hD.sub (ws' := [(h0, .inr (12, [v0, .int ts, .ref hQ, v3, .int lf, .null, v6, v7, v8, v9, v10, .int ar, v12, v13, .int ct, v15]))]) [0] (by decide) rfl
  have hK9 := hK.sub (tys' := [(cB, .byte), (cI, .int), (cJ, .long), (cZ, .boolean)]) [0, 1, 2, 3] rfl
  exact W.iret (v := 0) hx hb hr (fun t_ ht hW => ⟨⟨0, (), rfl, rfl, by rw [ht]; exact hP9, va_K.moved hW.alike hK9, hD9⟩, hS.F ht⟩) hS.2.2 dX11_told_100
abbrev cs_t_X11_told_4 (cB cI cJ cZ : ClassId) (h0 hQ : Nat) (v0 v3 v6 v7 v8 v9 v10 v12 v13 v15 : Value) (ts lf : Int32) (ct ar : Int32) : va_W := [(h0, .inr (12, [v0, .int ts, .ref hQ, v3, .int lf, .null, v6, v7, v8, v9, v10, .int ar, v12, v13, .int ct, v15]))]
abbrev pc_t_X11_told_4 (dC : Nat → ClassId) (dI : Nat → Nat → Nat) (sz : Nat) (cB cI cJ cZ : ClassId) (h0 hQ : Nat) (v0 v3 v6 v7 v8 v9 v10 v12 v13 v15 : Value) (ts lf : Int32) (ct ar : Int32) : Array Value → State → Prop := va_Pc [.ref h0, .int 4] (fun U => U.heap.size = sz ∧ va_P (dC, dI) vwCl [(h0, .inr (12, [v0, .int ts, .ref hQ, v3, .int lf, .null, v6, v7, v8, v9, v10, .int ar, v12, v13, .int ct, v15]))] U.heap ∧ va_K (dC, dI) vwCl [(cB, .byte), (cI, .int), (cJ, .long), (cZ, .boolean)] U ∧ va_D (fun _ => True) [(h0, .inr (12, [v0, .int ts, .ref hQ, v3, .int lf, .null, v6, v7, v8, v9, v10, .int ar, v12, v13, .int ct, v15]))])
abbrev qc_t_X11_told_4 (dC : Nat → ClassId) (dI : Nat → Nat → Nat) (cB cI cJ cZ : ClassId) (h0 hQ : Nat) (v0 v3 v6 v7 v8 v9 v10 v12 v13 v15 : Value) (ts lf : Int32) (ct ar : Int32) (A : Nat → Prop) : Array Value → State → Outcome → State → Prop := va_Qi (fun (r : Int32) (u : Unit) => match u with | _ => r = 0) (fun (u : Unit) t_ => match u with | _ => va_P (dC, dI) vwCl [(h0, .inr (12, [v0, .int ts, .ref hQ, v3, .int lf, .null, v6, v7, v8, v9, v10, .int ar, v12, v13, .int ct, v15]))] t_.heap ∧ va_K (dC, dI) vwCl [(cB, .byte), (cI, .int), (cJ, .long), (cZ, .boolean)] t_ ∧ va_D A [(h0, .inr (12, [v0, .int ts, .ref hQ, v3, .int lf, .null, v6, v7, v8, v9, v10, .int ar, v12, v13, .int ct, v15]))]) A
set_option maxHeartbeats 4000000 in
set_option maxRecDepth 100000 in
theorem t_X11_told_4 (l : Launch) (dC : Nat → ClassId) (dI : Nat → Nat → Nat) (sz : Nat) (cB cI cJ cZ : ClassId) (h0 hQ : Nat) (v0 v3 v6 v7 v8 v9 v10 v12 v13 v15 : Value) (ts lf : Int32) (ct ar : Int32)  : Met l yX11_told (wsOf yX11_told cX11_told 2 (some .int)) ({ frames := 0, cells := 0, slots := 0, locals := 0 }) (pc_t_X11_told_4 dC dI sz cB cI cJ cZ h0 hQ v0 v3 v6 v7 v8 v9 v10 v12 v13 v15 ts lf ct ar) (qc_t_X11_told_4 dC dI cB cI cJ cZ h0 hQ v0 v3 v6 v7 v8 v9 v10 v12 v13 v15 ts lf ct ar (va_A (cs_t_X11_told_4 cB cI cJ cZ h0 hQ v0 v3 v6 v7 v8 v9 v10 v12 v13 v15 ts lf ct ar) sz)) 0 0 (va_A (cs_t_X11_told_4 cB cI cJ cZ h0 hQ v0 v3 v6 v7 v8 v9 v10 v12 v13 v15 ts lf ct ar) sz) := by
  refine Met.ofW (cc := cX11_told) (maxL := 2) (ret := (some .int)) (by decide) rfl ?_
  intro p e s m args below meth c s₁ B hml hv
  obtain ⟨rfl, hsz, hP, hK, hD0⟩ := hv
  have hx := B.exec
  have hb := B.bytes
  have hr := B.returns
  have hts := atoms_spec (ws := (wsOf yX11_told cX11_told 2 (some .int))) B.pre
  have hown : s.vm.findClass RX11 = some m.cls := findClass_of_methodNamed B.named
  have hlocks := B.notSynchronized
  subst hsz
  have hD := hD0.self (sz := s.heap.size)
  generalize hAe : va_A (cs_t_X11_told_4 cB cI cJ cZ h0 hQ v0 v3 v6 v7 v8 v9 v10 v12 v13 v15 ts lf ct ar) s.heap.size = A at hD ⊢
  have hA : ∀ q : Nat, s.heap.size ≤ q → A q := fun q h => by rw [← hAe]; exact Or.inr h
  have hS : va_S A s.heap s.heap [] := va_S.rf
  have hP : va_P (dC, dI) vwCl [(h0, .inr (12, [v0, .int ts, .ref hQ, v3, .int lf, .null, v6, v7, v8, v9, v10, .int ar, v12, v13, .int ct, v15]))] s.heap := hP
  have hl := lv_entry ([.ref h0, .int 4]) (n := 2) (Nat.le_of_ble_eq_true rfl)
  rw [lg_entry_eq]
  generalize (lg_sl ([.ref h0, .int 4]) ++ List.replicate (2 - (lg_sl ([.ref h0, .int 4])).length) Slot.unset).toArray = ls at hl ⊢
  have hl : lv_has ls 2 [(0, .ref h0), (1, .int 4)] := hl
  refine lv_iload_n hx hb dX11_told_0 rfl (lv_at hl 1 rfl) ?_
  refine lv_tableIn (tgt := 101) (off := 100) hx hb dX11_told_1 (by decide) (by decide) (by decide) (by decide) ?_
  refine lv_aload_n hx hb dX11_told_101 rfl (lv_at hl 0 rfl) ?_
  refine va_get (D := (dC, dI)) (ci := 12) (v := .null) (C := RX11) (T := TX11) (N := 16) hx hb hts (fun w h => List.mem_cons_of_mem _ (uG_X11 w h)) hown hK hP 0 rfl rfl 5 (by decide) (hts _ (List.mem_cons_of_mem _ kw_433)) (fun _ h9 => h9) rfl dX11_told_102 ?_
  refine lv_ifnonnullN hx hb dX11_told_105 ?_
  refine lv_iconst (v := 0) hx hb dX11_told_108 (by decide) ?_
  refine lv_goto (tgt := 119) hx hb dX11_told_109 (by decide) ?_
  have hP9 := hP.sub (ws' := [(h0, .inr (12, [v0, .int ts, .ref hQ, v3, .int lf, .null, v6, v7, v8, v9, v10, .int ar, v12, v13, .int ct, v15]))]) [0] rfl
  have hD9 := hD.sub (ws' := [(h0, .inr (12, [v0, .int ts, .ref hQ, v3, .int lf, .null, v6, v7, v8, v9, v10, .int ar, v12, v13, .int ct, v15]))]) [0] (by decide) rfl
  have hK9 := hK.sub (tys' := [(cB, .byte), (cI, .int), (cJ, .long), (cZ, .boolean)]) [0, 1, 2, 3] rfl
  exact W.iret (v := 0) hx hb hr (fun t_ ht hW => ⟨⟨0, (), rfl, rfl, by rw [ht]; exact hP9, va_K.moved hW.alike hK9, hD9⟩, hS.F ht⟩) hS.2.2 dX11_told_119
abbrev cs_t_X11_told_5 (cB cI cJ cZ : ClassId) (h0 hQ : Nat) (v0 v3 v6 v7 v8 v9 v10 v12 v13 v15 : Value) (ts lf : Int32) (ct ar : Int32) : va_W := [(h0, .inr (12, [v0, .int ts, .ref hQ, v3, .int lf, .null, v6, v7, v8, v9, v10, .int ar, v12, v13, .int ct, v15]))]
abbrev pc_t_X11_told_5 (dC : Nat → ClassId) (dI : Nat → Nat → Nat) (sz : Nat) (cB cI cJ cZ : ClassId) (h0 hQ : Nat) (v0 v3 v6 v7 v8 v9 v10 v12 v13 v15 : Value) (ts lf : Int32) (ct ar : Int32) : Array Value → State → Prop := va_Pc [.ref h0, .int 5] (fun U => U.heap.size = sz ∧ va_P (dC, dI) vwCl [(h0, .inr (12, [v0, .int ts, .ref hQ, v3, .int lf, .null, v6, v7, v8, v9, v10, .int ar, v12, v13, .int ct, v15]))] U.heap ∧ va_K (dC, dI) vwCl [(cB, .byte), (cI, .int), (cJ, .long), (cZ, .boolean)] U ∧ va_D (fun _ => True) [(h0, .inr (12, [v0, .int ts, .ref hQ, v3, .int lf, .null, v6, v7, v8, v9, v10, .int ar, v12, v13, .int ct, v15]))])
abbrev qc_t_X11_told_5 (dC : Nat → ClassId) (dI : Nat → Nat → Nat) (cB cI cJ cZ : ClassId) (h0 hQ : Nat) (v0 v3 v6 v7 v8 v9 v10 v12 v13 v15 : Value) (ts lf : Int32) (ct ar : Int32) (A : Nat → Prop) : Array Value → State → Outcome → State → Prop := va_Qi (fun (r : Int32) (u : Unit) => match u with | _ => r = 0) (fun (u : Unit) t_ => match u with | _ => va_P (dC, dI) vwCl [(h0, .inr (12, [v0, .int ts, .ref hQ, v3, .int lf, .null, v6, v7, v8, v9, v10, .int ar, v12, v13, .int ct, v15]))] t_.heap ∧ va_K (dC, dI) vwCl [(cB, .byte), (cI, .int), (cJ, .long), (cZ, .boolean)] t_ ∧ va_D A [(h0, .inr (12, [v0, .int ts, .ref hQ, v3, .int lf, .null, v6, v7, v8, v9, v10, .int ar, v12, v13, .int ct, v15]))]) A
set_option maxHeartbeats 4000000 in
set_option maxRecDepth 100000 in
theorem t_X11_told_5 (l : Launch) (dC : Nat → ClassId) (dI : Nat → Nat → Nat) (sz : Nat) (cB cI cJ cZ : ClassId) (h0 hQ : Nat) (v0 v3 v6 v7 v8 v9 v10 v12 v13 v15 : Value) (ts lf : Int32) (ct ar : Int32)  : Met l yX11_told (wsOf yX11_told cX11_told 2 (some .int)) ({ frames := 0, cells := 0, slots := 0, locals := 0 }) (pc_t_X11_told_5 dC dI sz cB cI cJ cZ h0 hQ v0 v3 v6 v7 v8 v9 v10 v12 v13 v15 ts lf ct ar) (qc_t_X11_told_5 dC dI cB cI cJ cZ h0 hQ v0 v3 v6 v7 v8 v9 v10 v12 v13 v15 ts lf ct ar (va_A (cs_t_X11_told_5 cB cI cJ cZ h0 hQ v0 v3 v6 v7 v8 v9 v10 v12 v13 v15 ts lf ct ar) sz)) 0 0 (va_A (cs_t_X11_told_5 cB cI cJ cZ h0 hQ v0 v3 v6 v7 v8 v9 v10 v12 v13 v15 ts lf ct ar) sz) := by
  refine Met.ofW (cc := cX11_told) (maxL := 2) (ret := (some .int)) (by decide) rfl ?_
  intro p e s m args below meth c s₁ B hml hv
  obtain ⟨rfl, hsz, hP, hK, hD0⟩ := hv
  have hx := B.exec
  have hb := B.bytes
  have hr := B.returns
  have hts := atoms_spec (ws := (wsOf yX11_told cX11_told 2 (some .int))) B.pre
  have hown : s.vm.findClass RX11 = some m.cls := findClass_of_methodNamed B.named
  have hlocks := B.notSynchronized
  subst hsz
  have hD := hD0.self (sz := s.heap.size)
  generalize hAe : va_A (cs_t_X11_told_5 cB cI cJ cZ h0 hQ v0 v3 v6 v7 v8 v9 v10 v12 v13 v15 ts lf ct ar) s.heap.size = A at hD ⊢
  have hA : ∀ q : Nat, s.heap.size ≤ q → A q := fun q h => by rw [← hAe]; exact Or.inr h
  have hS : va_S A s.heap s.heap [] := va_S.rf
  have hP : va_P (dC, dI) vwCl [(h0, .inr (12, [v0, .int ts, .ref hQ, v3, .int lf, .null, v6, v7, v8, v9, v10, .int ar, v12, v13, .int ct, v15]))] s.heap := hP
  have hl := lv_entry ([.ref h0, .int 5]) (n := 2) (Nat.le_of_ble_eq_true rfl)
  rw [lg_entry_eq]
  generalize (lg_sl ([.ref h0, .int 5]) ++ List.replicate (2 - (lg_sl ([.ref h0, .int 5])).length) Slot.unset).toArray = ls at hl ⊢
  have hl : lv_has ls 2 [(0, .ref h0), (1, .int 5)] := hl
  refine lv_iload_n hx hb dX11_told_0 rfl (lv_at hl 1 rfl) ?_
  refine lv_tableIn (tgt := 120) (off := 119) hx hb dX11_told_1 (by decide) (by decide) (by decide) (by decide) ?_
  refine lv_aload_n hx hb dX11_told_120 rfl (lv_at hl 0 rfl) ?_
  refine va_get (D := (dC, dI)) (ci := 12) (v := .null) (C := RX11) (T := TX11) (N := 16) hx hb hts (fun w h => List.mem_cons_of_mem _ (uG_X11 w h)) hown hK hP 0 rfl rfl 5 (by decide) (hts _ (List.mem_cons_of_mem _ kw_433)) (fun _ h9 => h9) rfl dX11_told_121 ?_
  refine lv_ifnonnullN hx hb dX11_told_124 ?_
  refine lv_iconst (v := 0) hx hb dX11_told_127 (by decide) ?_
  refine lv_goto (tgt := 132) hx hb dX11_told_128 (by decide) ?_
  have hP9 := hP.sub (ws' := [(h0, .inr (12, [v0, .int ts, .ref hQ, v3, .int lf, .null, v6, v7, v8, v9, v10, .int ar, v12, v13, .int ct, v15]))]) [0] rfl
  have hD9 := hD.sub (ws' := [(h0, .inr (12, [v0, .int ts, .ref hQ, v3, .int lf, .null, v6, v7, v8, v9, v10, .int ar, v12, v13, .int ct, v15]))]) [0] (by decide) rfl
  have hK9 := hK.sub (tys' := [(cB, .byte), (cI, .int), (cJ, .long), (cZ, .boolean)]) [0, 1, 2, 3] rfl
  exact W.iret (v := 0) hx hb hr (fun t_ ht hW => ⟨⟨0, (), rfl, rfl, by rw [ht]; exact hP9, va_K.moved hW.alike hK9, hD9⟩, hS.F ht⟩) hS.2.2 dX11_told_132
abbrev cs_t_X11_told_o (cB cI cJ cZ : ClassId) (h0 hQ : Nat) (v0 v3 v6 v7 v8 v9 v10 v12 v13 v15 : Value) (ts lf : Int32) (ct ar : Int32) (x : Int32) : va_W := [(h0, .inr (12, [v0, .int ts, .ref hQ, v3, .int lf, .null, v6, v7, v8, v9, v10, .int ar, v12, v13, .int ct, v15]))]
abbrev pc_t_X11_told_o (dC : Nat → ClassId) (dI : Nat → Nat → Nat) (sz : Nat) (cB cI cJ cZ : ClassId) (h0 hQ : Nat) (v0 v3 v6 v7 v8 v9 v10 v12 v13 v15 : Value) (ts lf : Int32) (ct ar : Int32) (x : Int32) : Array Value → State → Prop := va_Pc [.ref h0, .int x] (fun U => U.heap.size = sz ∧ va_P (dC, dI) vwCl [(h0, .inr (12, [v0, .int ts, .ref hQ, v3, .int lf, .null, v6, v7, v8, v9, v10, .int ar, v12, v13, .int ct, v15]))] U.heap ∧ va_K (dC, dI) vwCl [(cB, .byte), (cI, .int), (cJ, .long), (cZ, .boolean)] U ∧ va_D (fun _ => True) [(h0, .inr (12, [v0, .int ts, .ref hQ, v3, .int lf, .null, v6, v7, v8, v9, v10, .int ar, v12, v13, .int ct, v15]))])
abbrev qc_t_X11_told_o (dC : Nat → ClassId) (dI : Nat → Nat → Nat) (cB cI cJ cZ : ClassId) (h0 hQ : Nat) (v0 v3 v6 v7 v8 v9 v10 v12 v13 v15 : Value) (ts lf : Int32) (ct ar : Int32) (x : Int32) (A : Nat → Prop) : Array Value → State → Outcome → State → Prop := va_Qi (fun (r : Int32) (u : Unit) => match u with | _ => r = -1) (fun (u : Unit) t_ => match u with | _ => va_P (dC, dI) vwCl [(h0, .inr (12, [v0, .int ts, .ref hQ, v3, .int lf, .null, v6, v7, v8, v9, v10, .int ar, v12, v13, .int ct, v15]))] t_.heap ∧ va_K (dC, dI) vwCl [(cB, .byte), (cI, .int), (cJ, .long), (cZ, .boolean)] t_ ∧ va_D A [(h0, .inr (12, [v0, .int ts, .ref hQ, v3, .int lf, .null, v6, v7, v8, v9, v10, .int ar, v12, v13, .int ct, v15]))]) A
set_option maxHeartbeats 4000000 in
set_option maxRecDepth 100000 in
theorem t_X11_told_o (l : Launch) (dC : Nat → ClassId) (dI : Nat → Nat → Nat) (sz : Nat) (cB cI cJ cZ : ClassId) (h0 hQ : Nat) (v0 v3 v6 v7 v8 v9 v10 v12 v13 v15 : Value) (ts lf : Int32) (ct ar : Int32) (x : Int32) (ho : x.toInt < 0 ∨ 5 < x.toInt) : Met l yX11_told (wsOf yX11_told cX11_told 2 (some .int)) ({ frames := 0, cells := 0, slots := 0, locals := 0 }) (pc_t_X11_told_o dC dI sz cB cI cJ cZ h0 hQ v0 v3 v6 v7 v8 v9 v10 v12 v13 v15 ts lf ct ar x) (qc_t_X11_told_o dC dI cB cI cJ cZ h0 hQ v0 v3 v6 v7 v8 v9 v10 v12 v13 v15 ts lf ct ar x (va_A (cs_t_X11_told_o cB cI cJ cZ h0 hQ v0 v3 v6 v7 v8 v9 v10 v12 v13 v15 ts lf ct ar x) sz)) 0 0 (va_A (cs_t_X11_told_o cB cI cJ cZ h0 hQ v0 v3 v6 v7 v8 v9 v10 v12 v13 v15 ts lf ct ar x) sz) := by
  refine Met.ofW (cc := cX11_told) (maxL := 2) (ret := (some .int)) (by decide) rfl ?_
  intro p e s m args below meth c s₁ B hml hv
  obtain ⟨rfl, hsz, hP, hK, hD0⟩ := hv
  have hx := B.exec
  have hb := B.bytes
  have hr := B.returns
  have hts := atoms_spec (ws := (wsOf yX11_told cX11_told 2 (some .int))) B.pre
  have hown : s.vm.findClass RX11 = some m.cls := findClass_of_methodNamed B.named
  have hlocks := B.notSynchronized
  subst hsz
  have hD := hD0.self (sz := s.heap.size)
  generalize hAe : va_A (cs_t_X11_told_o cB cI cJ cZ h0 hQ v0 v3 v6 v7 v8 v9 v10 v12 v13 v15 ts lf ct ar x) s.heap.size = A at hD ⊢
  have hA : ∀ q : Nat, s.heap.size ≤ q → A q := fun q h => by rw [← hAe]; exact Or.inr h
  have hS : va_S A s.heap s.heap [] := va_S.rf
  have hP : va_P (dC, dI) vwCl [(h0, .inr (12, [v0, .int ts, .ref hQ, v3, .int lf, .null, v6, v7, v8, v9, v10, .int ar, v12, v13, .int ct, v15]))] s.heap := hP
  have hl := lv_entry ([.ref h0, .int x]) (n := 2) (Nat.le_of_ble_eq_true rfl)
  rw [lg_entry_eq]
  generalize (lg_sl ([.ref h0, .int x]) ++ List.replicate (2 - (lg_sl ([.ref h0, .int x])).length) Slot.unset).toArray = ls at hl ⊢
  have hl : lv_has ls 2 [(0, .ref h0), (1, .int x)] := hl
  refine lv_iload_n hx hb dX11_told_0 rfl (lv_at hl 1 rfl) ?_
  refine lv_tableOut (tgt := 133) hx hb dX11_told_1 ho (by decide) ?_
  refine lv_iconst (v := (-1)) hx hb dX11_told_133 (by decide) ?_
  have hP9 := hP.sub (ws' := [(h0, .inr (12, [v0, .int ts, .ref hQ, v3, .int lf, .null, v6, v7, v8, v9, v10, .int ar, v12, v13, .int ct, v15]))]) [0] rfl
  have hD9 := hD.sub (ws' := [(h0, .inr (12, [v0, .int ts, .ref hQ, v3, .int lf, .null, v6, v7, v8, v9, v10, .int ar, v12, v13, .int ct, v15]))]) [0] (by decide) rfl
  have hK9 := hK.sub (tys' := [(cB, .byte), (cI, .int), (cJ, .long), (cZ, .boolean)]) [0, 1, 2, 3] rfl
  exact W.iret (v := (-1)) hx hb hr (fun t_ ht hW => ⟨⟨(-1), (), rfl, rfl, by rw [ht]; exact hP9, va_K.moved hW.alike hK9, hD9⟩, hS.F ht⟩) hS.2.2 dX11_told_134
abbrev cs_t_X11_told_0 (cB cI cJ cZ : ClassId) (h0 hQ : Nat) (v0 v3 v6 v7 v8 v9 v10 v12 v13 v15 : Value) (ts lf : Int32) (ct ar : Int32) (wc wv wn wt wx wy : Value) (k d : Int32) (wm : Int64) : va_W := [(h0, .inr (12, [v0, .int ts, .ref hQ, v3, .int lf, .null, v6, v7, v8, v9, v10, .int ar, v12, v13, .int ct, v15])), (hQ, .inr (8, [.int k, .long wm, wc, wv, wn, wt, wx, wy, .int d]))]
abbrev pc_t_X11_told_0 (dC : Nat → ClassId) (dI : Nat → Nat → Nat) (sz : Nat) (cB cI cJ cZ : ClassId) (h0 hQ : Nat) (v0 v3 v6 v7 v8 v9 v10 v12 v13 v15 : Value) (ts lf : Int32) (ct ar : Int32) (wc wv wn wt wx wy : Value) (k d : Int32) (wm : Int64) : Array Value → State → Prop := va_Pc [.ref h0, .int 0] (fun U => U.heap.size = sz ∧ va_P (dC, dI) vwCl [(h0, .inr (12, [v0, .int ts, .ref hQ, v3, .int lf, .null, v6, v7, v8, v9, v10, .int ar, v12, v13, .int ct, v15])), (hQ, .inr (8, [.int k, .long wm, wc, wv, wn, wt, wx, wy, .int d]))] U.heap ∧ va_K (dC, dI) vwCl [(cB, .byte), (cI, .int), (cJ, .long), (cZ, .boolean)] U ∧ va_D (fun _ => True) [(h0, .inr (12, [v0, .int ts, .ref hQ, v3, .int lf, .null, v6, v7, v8, v9, v10, .int ar, v12, v13, .int ct, v15])), (hQ, .inr (8, [.int k, .long wm, wc, wv, wn, wt, wx, wy, .int d]))])
abbrev qc_t_X11_told_0 (dC : Nat → ClassId) (dI : Nat → Nat → Nat) (cB cI cJ cZ : ClassId) (h0 hQ : Nat) (v0 v3 v6 v7 v8 v9 v10 v12 v13 v15 : Value) (ts lf : Int32) (ct ar : Int32) (wc wv wn wt wx wy : Value) (k d : Int32) (wm : Int64) (A : Nat → Prop) : Array Value → State → Outcome → State → Prop := va_Qi (fun (r : Int32) (u : Unit) => match u with | _ => r = k) (fun (u : Unit) t_ => match u with | _ => va_P (dC, dI) vwCl [(h0, .inr (12, [v0, .int ts, .ref hQ, v3, .int lf, .null, v6, v7, v8, v9, v10, .int ar, v12, v13, .int ct, v15])), (hQ, .inr (8, [.int k, .long wm, wc, wv, wn, wt, wx, wy, .int d]))] t_.heap ∧ va_K (dC, dI) vwCl [(cB, .byte), (cI, .int), (cJ, .long), (cZ, .boolean)] t_ ∧ va_D A [(h0, .inr (12, [v0, .int ts, .ref hQ, v3, .int lf, .null, v6, v7, v8, v9, v10, .int ar, v12, v13, .int ct, v15])), (hQ, .inr (8, [.int k, .long wm, wc, wv, wn, wt, wx, wy, .int d]))]) A
set_option maxHeartbeats 4000000 in
set_option maxRecDepth 100000 in
theorem t_X11_told_0 (l : Launch) (dC : Nat → ClassId) (dI : Nat → Nat → Nat) (sz : Nat) (cB cI cJ cZ : ClassId) (h0 hQ : Nat) (v0 v3 v6 v7 v8 v9 v10 v12 v13 v15 : Value) (ts lf : Int32) (ct ar : Int32) (wc wv wn wt wx wy : Value) (k d : Int32) (wm : Int64)  : Met l yX11_told (wsOf yX11_told cX11_told 2 (some .int)) ({ frames := 0, cells := 0, slots := 0, locals := 0 }) (pc_t_X11_told_0 dC dI sz cB cI cJ cZ h0 hQ v0 v3 v6 v7 v8 v9 v10 v12 v13 v15 ts lf ct ar wc wv wn wt wx wy k d wm) (qc_t_X11_told_0 dC dI cB cI cJ cZ h0 hQ v0 v3 v6 v7 v8 v9 v10 v12 v13 v15 ts lf ct ar wc wv wn wt wx wy k d wm (va_A (cs_t_X11_told_0 cB cI cJ cZ h0 hQ v0 v3 v6 v7 v8 v9 v10 v12 v13 v15 ts lf ct ar wc wv wn wt wx wy k d wm) sz)) 0 0 (va_A (cs_t_X11_told_0 cB cI cJ cZ h0 hQ v0 v3 v6 v7 v8 v9 v10 v12 v13 v15 ts lf ct ar wc wv wn wt wx wy k d wm) sz) := by
  refine Met.ofW (cc := cX11_told) (maxL := 2) (ret := (some .int)) (by decide) rfl ?_
  intro p e s m args below meth c s₁ B hml hv
  obtain ⟨rfl, hsz, hP, hK, hD0⟩ := hv
  have hx := B.exec
  have hb := B.bytes
  have hr := B.returns
  have hts := atoms_spec (ws := (wsOf yX11_told cX11_told 2 (some .int))) B.pre
  have hown : s.vm.findClass RX11 = some m.cls := findClass_of_methodNamed B.named
  have hlocks := B.notSynchronized
  subst hsz
  have hD := hD0.self (sz := s.heap.size)
  generalize hAe : va_A (cs_t_X11_told_0 cB cI cJ cZ h0 hQ v0 v3 v6 v7 v8 v9 v10 v12 v13 v15 ts lf ct ar wc wv wn wt wx wy k d wm) s.heap.size = A at hD ⊢
  have hA : ∀ q : Nat, s.heap.size ≤ q → A q := fun q h => by rw [← hAe]; exact Or.inr h
  have hS : va_S A s.heap s.heap [] := va_S.rf
  have hP : va_P (dC, dI) vwCl [(h0, .inr (12, [v0, .int ts, .ref hQ, v3, .int lf, .null, v6, v7, v8, v9, v10, .int ar, v12, v13, .int ct, v15])), (hQ, .inr (8, [.int k, .long wm, wc, wv, wn, wt, wx, wy, .int d]))] s.heap := hP
  have hl := lv_entry ([.ref h0, .int 0]) (n := 2) (Nat.le_of_ble_eq_true rfl)
  rw [lg_entry_eq]
  generalize (lg_sl ([.ref h0, .int 0]) ++ List.replicate (2 - (lg_sl ([.ref h0, .int 0])).length) Slot.unset).toArray = ls at hl ⊢
  have hl : lv_has ls 2 [(0, .ref h0), (1, .int 0)] := hl
  refine lv_iload_n hx hb dX11_told_0 rfl (lv_at hl 1 rfl) ?_
  refine lv_tableIn (tgt := 40) (off := 39) hx hb dX11_told_1 (by decide) (by decide) (by decide) (by decide) ?_
  refine lv_aload_n hx hb dX11_told_40 rfl (lv_at hl 0 rfl) ?_
  refine va_get (D := (dC, dI)) (ci := 12) (v := .ref hQ) (C := RX11) (T := TX11) (N := 16) hx hb hts (fun w h => List.mem_cons_of_mem _ (uG_X11 w h)) hown hK hP 0 rfl rfl 2 (by decide) (hts _ (List.mem_cons_of_mem _ kw_430)) (fun _ h9 => h9) rfl dX11_told_41 ?_
  refine va_get (D := (dC, dI)) (ci := 8) (v := .int k) (C := RX7) (T := TX7) (N := 9) hx hb hts (fun w h => List.mem_cons_of_mem _ (uG_X7 w h)) hown hK hP 1 rfl rfl 0 (by decide) (hts _ (List.mem_cons_of_mem _ kw_224)) (fun _ h9 => h9) rfl dX11_told_44 ?_
  have hP9 := hP.sub (ws' := [(h0, .inr (12, [v0, .int ts, .ref hQ, v3, .int lf, .null, v6, v7, v8, v9, v10, .int ar, v12, v13, .int ct, v15])), (hQ, .inr (8, [.int k, .long wm, wc, wv, wn, wt, wx, wy, .int d]))]) [0, 1] rfl
  have hD9 := hD.sub (ws' := [(h0, .inr (12, [v0, .int ts, .ref hQ, v3, .int lf, .null, v6, v7, v8, v9, v10, .int ar, v12, v13, .int ct, v15])), (hQ, .inr (8, [.int k, .long wm, wc, wv, wn, wt, wx, wy, .int d]))]) [0, 1] (by decide) rfl
  have hK9 := hK.sub (tys' := [(cB, .byte), (cI, .int), (cJ, .long), (cZ, .boolean)]) [0, 1, 2, 3] rfl
  exact W.iret (v := k) hx hb hr (fun t_ ht hW => ⟨⟨k, (), rfl, rfl, by rw [ht]; exact hP9, va_K.moved hW.alike hK9, hD9⟩, hS.F ht⟩) hS.2.2 dX11_told_47
abbrev cs_t_X11_told_1 (cB cI cJ cZ : ClassId) (h0 hQ : Nat) (v0 v3 v6 v7 v8 v9 v10 v12 v13 v15 : Value) (ts lf : Int32) (ct ar : Int32) (hH : Nat) (k : Int32) (tf : Nat → Int32) (wm : Int64) (wc wv wn wx wy : Value) (d : Int32) : va_W := [(h0, .inr (12, [v0, .int ts, .ref hQ, v3, .int lf, .null, v6, v7, v8, v9, v10, .int ar, v12, v13, .int ct, v15])), (hQ, .inr (8, [.int k, .long wm, wc, wv, wn, .ref hH, wx, wy, .int d])), (hH, .inl (cB, 48, .inl tf))]
abbrev pc_t_X11_told_1 (dC : Nat → ClassId) (dI : Nat → Nat → Nat) (sz : Nat) (cB cI cJ cZ : ClassId) (h0 hQ : Nat) (v0 v3 v6 v7 v8 v9 v10 v12 v13 v15 : Value) (ts lf : Int32) (ct ar : Int32) (hH : Nat) (k : Int32) (tf : Nat → Int32) (wm : Int64) (wc wv wn wx wy : Value) (d : Int32) : Array Value → State → Prop := va_Pc [.ref h0, .int 1] (fun U => U.heap.size = sz ∧ va_P (dC, dI) vwCl [(h0, .inr (12, [v0, .int ts, .ref hQ, v3, .int lf, .null, v6, v7, v8, v9, v10, .int ar, v12, v13, .int ct, v15])), (hQ, .inr (8, [.int k, .long wm, wc, wv, wn, .ref hH, wx, wy, .int d])), (hH, .inl (cB, 48, .inl tf))] U.heap ∧ va_K (dC, dI) vwCl [(cB, .byte), (cI, .int), (cJ, .long), (cZ, .boolean)] U ∧ va_D (fun _ => True) [(h0, .inr (12, [v0, .int ts, .ref hQ, v3, .int lf, .null, v6, v7, v8, v9, v10, .int ar, v12, v13, .int ct, v15])), (hQ, .inr (8, [.int k, .long wm, wc, wv, wn, .ref hH, wx, wy, .int d])), (hH, .inl (cB, 48, .inl tf))])
abbrev qc_t_X11_told_1 (dC : Nat → ClassId) (dI : Nat → Nat → Nat) (cB cI cJ cZ : ClassId) (h0 hQ : Nat) (v0 v3 v6 v7 v8 v9 v10 v12 v13 v15 : Value) (ts lf : Int32) (ct ar : Int32) (hH : Nat) (k : Int32) (tf : Nat → Int32) (wm : Int64) (wc wv wn wx wy : Value) (d : Int32) (A : Nat → Prop) : Array Value → State → Outcome → State → Prop := va_Qi (fun (r : Int32) (u : Unit) => match u with | _ => r = sumI tf 48) (fun (u : Unit) t_ => match u with | _ => va_P (dC, dI) vwCl [(h0, .inr (12, [v0, .int ts, .ref hQ, v3, .int lf, .null, v6, v7, v8, v9, v10, .int ar, v12, v13, .int ct, v15])), (hQ, .inr (8, [.int k, .long wm, wc, wv, wn, .ref hH, wx, wy, .int d])), (hH, .inl (cB, 48, .inl tf))] t_.heap ∧ va_K (dC, dI) vwCl [(cB, .byte), (cI, .int), (cJ, .long), (cZ, .boolean)] t_ ∧ va_D A [(h0, .inr (12, [v0, .int ts, .ref hQ, v3, .int lf, .null, v6, v7, v8, v9, v10, .int ar, v12, v13, .int ct, v15])), (hQ, .inr (8, [.int k, .long wm, wc, wv, wn, .ref hH, wx, wy, .int d])), (hH, .inl (cB, 48, .inl tf))]) A
set_option maxHeartbeats 4000000 in
set_option maxRecDepth 100000 in
theorem t_X11_told_1 (l : Launch) (dC : Nat → ClassId) (dI : Nat → Nat → Nat) (sz : Nat) (cB cI cJ cZ : ClassId) (h0 hQ : Nat) (v0 v3 v6 v7 v8 v9 v10 v12 v13 v15 : Value) (ts lf : Int32) (ct ar : Int32) (hH : Nat) (k : Int32) (tf : Nat → Int32) (wm : Int64) (wc wv wn wx wy : Value) (d : Int32)  : Met l yX11_told (wsOf yX11_told cX11_told 2 (some .int)) ({ frames := 1, cells := 0, slots := 0, locals := 60 }) (pc_t_X11_told_1 dC dI sz cB cI cJ cZ h0 hQ v0 v3 v6 v7 v8 v9 v10 v12 v13 v15 ts lf ct ar hH k tf wm wc wv wn wx wy d) (qc_t_X11_told_1 dC dI cB cI cJ cZ h0 hQ v0 v3 v6 v7 v8 v9 v10 v12 v13 v15 ts lf ct ar hH k tf wm wc wv wn wx wy d (va_A (cs_t_X11_told_1 cB cI cJ cZ h0 hQ v0 v3 v6 v7 v8 v9 v10 v12 v13 v15 ts lf ct ar hH k tf wm wc wv wn wx wy d) sz)) 0 0 (va_A (cs_t_X11_told_1 cB cI cJ cZ h0 hQ v0 v3 v6 v7 v8 v9 v10 v12 v13 v15 ts lf ct ar hH k tf wm wc wv wn wx wy d) sz) := by
  refine Met.ofW (cc := cX11_told) (maxL := 2) (ret := (some .int)) (by decide) rfl ?_
  intro p e s m args below meth c s₁ B hml hv
  obtain ⟨rfl, hsz, hP, hK, hD0⟩ := hv
  have hx := B.exec
  have hb := B.bytes
  have hr := B.returns
  have hts := atoms_spec (ws := (wsOf yX11_told cX11_told 2 (some .int))) B.pre
  have hown : s.vm.findClass RX11 = some m.cls := findClass_of_methodNamed B.named
  have hlocks := B.notSynchronized
  subst hsz
  have hD := hD0.self (sz := s.heap.size)
  generalize hAe : va_A (cs_t_X11_told_1 cB cI cJ cZ h0 hQ v0 v3 v6 v7 v8 v9 v10 v12 v13 v15 ts lf ct ar hH k tf wm wc wv wn wx wy d) s.heap.size = A at hD ⊢
  have hA : ∀ q : Nat, s.heap.size ≤ q → A q := fun q h => by rw [← hAe]; exact Or.inr h
  have hS : va_S A s.heap s.heap [] := va_S.rf
  have hP : va_P (dC, dI) vwCl [(h0, .inr (12, [v0, .int ts, .ref hQ, v3, .int lf, .null, v6, v7, v8, v9, v10, .int ar, v12, v13, .int ct, v15])), (hQ, .inr (8, [.int k, .long wm, wc, wv, wn, .ref hH, wx, wy, .int d])), (hH, .inl (cB, 48, .inl tf))] s.heap := hP
  have hl := lv_entry ([.ref h0, .int 1]) (n := 2) (Nat.le_of_ble_eq_true rfl)
  rw [lg_entry_eq]
  generalize (lg_sl ([.ref h0, .int 1]) ++ List.replicate (2 - (lg_sl ([.ref h0, .int 1])).length) Slot.unset).toArray = ls at hl ⊢
  have hl : lv_has ls 2 [(0, .ref h0), (1, .int 1)] := hl
  refine lv_iload_n hx hb dX11_told_0 rfl (lv_at hl 1 rfl) ?_
  refine lv_tableIn (tgt := 48) (off := 47) hx hb dX11_told_1 (by decide) (by decide) (by decide) (by decide) ?_
  refine lv_aload_n hx hb dX11_told_48 rfl (lv_at hl 0 rfl) ?_
  refine va_get (D := (dC, dI)) (ci := 12) (v := .ref hQ) (C := RX11) (T := TX11) (N := 16) hx hb hts (fun w h => List.mem_cons_of_mem _ (uG_X11 w h)) hown hK hP 0 rfl rfl 2 (by decide) (hts _ (List.mem_cons_of_mem _ kw_430)) (fun _ h9 => h9) rfl dX11_told_49 ?_
  have hPc := hP.sub (ws' := [(hQ, .inr (8, [.int k, .long wm, wc, wv, wn, .ref hH, wx, wy, .int d])), (hH, .inl (cB, 48, .inl tf))]) [1, 2] rfl
  have hDc := hD.sub (ws' := [(hQ, .inr (8, [.int k, .long wm, wc, wv, wn, .ref hH, wx, wy, .int d])), (hH, .inl (cB, 48, .inl tf))]) [1, 2] (by decide) rfl
  have hKc := hK.sub (tys' := [(cB, .byte), (cI, .int), (cJ, .long), (cZ, .boolean)]) [0, 1, 2, 3] rfl
  have hFc := va_free (wc := [(hQ, .inr (8, [.int k, .long wm, wc, wv, wn, .ref hH, wx, wy, .int d])), (hH, .inl (cB, 48, .inl tf))]) hD hS hA [1, 2] rfl
  refine va_calli (va_runV (As := []) (rest := []) ⟨hx, hb, hml, hown, hts⟩ (t_X7_rowCount l dC dI s.heap.size cB cI cJ cZ hQ hH k tf wm wc wv wn wx wy d) (cwV 0 hts (gd_all (in_V kw_1674 kw_1675 kw_1676 kw_182 kc_X7_rowCount)) rfl rfl rfl (by decide +kernel) ⟨Nat.le_of_ble_eq_true rfl, Nat.le_of_ble_eq_true rfl⟩) ⟨fun a U g mk q => by obtain ⟨q0, q1, qP, qK, qD⟩ := q; exact ⟨q0, q1, qP, va_K.moved (u := U) (U := U.calling g mk a) (Vm.Alike.refl U.vm) qK, qD⟩, va_recv hKc hPc (ci := 8) (q0 := 0) rfl rfl, fun U hU hW => ⟨rfl, by rw [hU], by rw [hU]; exact hPc, va_K.moved hW.alike hKc, hDc.weaken (fun _ _ _ _ => trivial)⟩⟩ rfl rfl hl.1 rfl (lv_room (Nat.le_of_ble_eq_true rfl)) dX11_told_52 ⟨Nat.le_of_ble_eq_true rfl, Nat.le_of_ble_eq_true rfl⟩) hS (fun q _ h => hFc q h) hFc (fun r_1 u t_ H1 locs ht hvm hw hB hz1 hk1 hS => ?_)
  obtain ⟨hP1, hK1, hD1⟩ := hB
  rw [ht] at hP1
  have hK1 := va_K.moved hvm.symm hK1
  obtain ⟨hP, hD⟩ := va_join (wr := [(h0, .inr (12, [v0, .int ts, .ref hQ, v3, .int lf, .null, v6, v7, v8, v9, v10, .int ar, v12, v13, .int ct, v15]))]) (w1 := [(hQ, .inr (8, [.int k, .long wm, wc, wv, wn, .ref hH, wx, wy, .int d])), (hH, .inl (cB, 48, .inl tf))]) hP hD [1, 2] [0] rfl rfl (by decide) (by decide) hk1 hFc hP1 hD1
  have hK := (hK.sub (tys' := []) [] rfl).app hK1
  generalize H1 = H at hP hS ⊢
  have hP : va_P (dC, dI) vwCl [(h0, .inr (12, [v0, .int ts, .ref hQ, v3, .int lf, .null, v6, v7, v8, v9, v10, .int ar, v12, v13, .int ct, v15])), (hQ, .inr (8, [.int k, .long wm, wc, wv, wn, .ref hH, wx, wy, .int d])), (hH, .inl (cB, 48, .inl tf))] H := hP
  have hD : va_D A [(h0, .inr (12, [v0, .int ts, .ref hQ, v3, .int lf, .null, v6, v7, v8, v9, v10, .int ar, v12, v13, .int ct, v15])), (hQ, .inr (8, [.int k, .long wm, wc, wv, wn, .ref hH, wx, wy, .int d])), (hH, .inl (cB, 48, .inl tf))] := hD
  have hK : va_K (dC, dI) vwCl [(cB, .byte), (cI, .int), (cJ, .long), (cZ, .boolean)] s := hK
  have er_1 : r_1 = sumI tf 48 := hw
  rw [er_1]
  have hP9 := hP.sub (ws' := [(h0, .inr (12, [v0, .int ts, .ref hQ, v3, .int lf, .null, v6, v7, v8, v9, v10, .int ar, v12, v13, .int ct, v15])), (hQ, .inr (8, [.int k, .long wm, wc, wv, wn, .ref hH, wx, wy, .int d])), (hH, .inl (cB, 48, .inl tf))]) [0, 1, 2] rfl
  have hD9 := hD.sub (ws' := [(h0, .inr (12, [v0, .int ts, .ref hQ, v3, .int lf, .null, v6, v7, v8, v9, v10, .int ar, v12, v13, .int ct, v15])), (hQ, .inr (8, [.int k, .long wm, wc, wv, wn, .ref hH, wx, wy, .int d])), (hH, .inl (cB, 48, .inl tf))]) [0, 1, 2] (by decide) rfl
  have hK9 := hK.sub (tys' := [(cB, .byte), (cI, .int), (cJ, .long), (cZ, .boolean)]) [0, 1, 2, 3] rfl
  exact W.iret (v := (sumI tf 48)) hx hb hr (fun t_ ht hW => ⟨⟨(sumI tf 48), (), rfl, rfl, by rw [ht]; exact hP9, va_K.moved hW.alike hK9, hD9⟩, hS.F ht⟩) hS.2.2 dX11_told_55

