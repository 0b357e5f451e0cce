theorem dX11_stream_0 : decode cX11_stream 0 = .ok (.aload_n 0, 1) := by decide +kernel
theorem dX11_stream_1 : decode cX11_stream 1 = .ok (.getfield 16, 3) := by decide +kernel
theorem dX11_stream_4 : decode cX11_stream 4 = .ok (.iload_n 1, 1) := by decide +kernel
theorem dX11_stream_5 : decode cX11_stream 5 = .ok (.invokevirtual 66, 3) := by decide +kernel
theorem dX11_stream_8 : decode cX11_stream 8 = .ok (.ireturn, 1) := by decide +kernel
abbrev cs_t_X11_stream (cB cI cJ cZ : ClassId) (h0 hQ hC : Nat) (k : Nat) (cf : Nat → Int32) (wm : Int64) (wv wn wt wx wy : Value) (d : Int32) (v0 v3 v5 v6 v7 v8 v9 v10 v12 v13 v15 : Value) (ts lf ar ct : Int32) (n : Int32) : va_W := [(h0, .inr (12, [v0, .int ts, .ref hQ, v3, .int lf, v5, v6, v7, v8, v9, v10, .int ar, v12, v13, .int ct, v15])), (hQ, .inr (8, [.int (nI k), .long wm, .ref hC, wv, wn, wt, wx, wy, .int d])), (hC, .inl (cI, 6, .inl cf))]
abbrev pc_t_X11_stream (dC : Nat → ClassId) (dI : Nat → Nat → Nat) (sz : Nat) (cB cI cJ cZ : ClassId) (h0 hQ hC : Nat) (k : Nat) (cf : Nat → Int32) (wm : Int64) (wv wn wt wx wy : Value) (d : Int32) (v0 v3 v5 v6 v7 v8 v9 v10 v12 v13 v15 : Value) (ts lf ar ct : Int32) (n : Int32) : Array Value → State → Prop := va_Pc [.ref h0, .int n] (fun U => U.heap.size = sz ∧ va_P (dC, dI) vwCl [(h0, .inr (12, [v0, .int ts, .ref hQ, v3, .int lf, v5, v6, v7, v8, v9, v10, .int ar, v12, v13, .int ct, v15])), (hQ, .inr (8, [.int (nI k), .long wm, .ref hC, wv, wn, wt, wx, wy, .int d])), (hC, .inl (cI, 6, .inl cf))] U.heap ∧ va_K (dC, dI) vwCl [(cB, .byte), (cI, .int), (cJ, .long), (cZ, .boolean)] U ∧ va_D (fun _ => True) [(h0, .inr (12, [v0, .int ts, .ref hQ, v3, .int lf, v5, v6, v7, v8, v9, v10, .int ar, v12, v13, .int ct, v15])), (hQ, .inr (8, [.int (nI k), .long wm, .ref hC, wv, wn, wt, wx, wy, .int d])), (hC, .inl (cI, 6, .inl cf))])
abbrev qc_t_X11_stream (dC : Nat → ClassId) (dI : Nat → Nat → Nat) (cB cI cJ cZ : ClassId) (h0 hQ hC : Nat) (k : Nat) (cf : Nat → Int32) (wm : Int64) (wv wn wt wx wy : Value) (d : Int32) (v0 v3 v5 v6 v7 v8 v9 v10 v12 v13 v15 : Value) (ts lf ar ct : Int32) (n : Int32) (A : Nat → Prop) : Array Value → State → Outcome → State → Prop := va_Qi (fun (r : Int32) (u : Nat × (Nat → Int32)) => match u with | (k2, c2) => r = strR k n ∧ k2 = strK k n ∧ c2 = strC cf k n) (fun (u : Nat × (Nat → Int32)) t_ => match u with | (k2, c2) => va_P (dC, dI) vwCl [(h0, .inr (12, [v0, .int ts, .ref hQ, v3, .int lf, v5, v6, v7, v8, v9, v10, .int ar, v12, v13, .int ct, v15])), (hQ, .inr (8, [.int (nI k2), .long wm, .ref hC, wv, wn, wt, wx, wy, .int d])), (hC, .inl (cI, 6, .inl c2))] t_.heap ∧ va_K (dC, dI) vwCl [(cB, .byte), (cI, .int), (cJ, .long), (cZ, .boolean)] t_ ∧ va_D A [(h0, .inr (12, [v0, .int ts, .ref hQ, v3, .int lf, v5, v6, v7, v8, v9, v10, .int ar, v12, v13, .int ct, v15])), (hQ, .inr (8, [.int (nI k2), .long wm, .ref hC, wv, wn, wt, wx, wy, .int d])), (hC, .inl (cI, 6, .inl c2))]) A
set_option maxHeartbeats 4000000 in
set_option maxRecDepth 100000 in
theorem t_X11_stream (l : Launch) (dC : Nat → ClassId) (dI : Nat → Nat → Nat) (sz : Nat) (cB cI cJ cZ : ClassId) (h0 hQ hC : Nat) (k : Nat) (cf : Nat → Int32) (wm : Int64) (wv wn wt wx wy : Value) (d : Int32) (v0 v3 v5 v6 v7 v8 v9 v10 v12 v13 v15 : Value) (ts lf ar ct : Int32) (n : Int32) (hk : k ≤ 6) : Met l yX11_stream (wsOf yX11_stream cX11_stream 2 (some .int)) ({ frames := 1, cells := 0, slots := 0, locals := 60 }) (pc_t_X11_stream dC dI sz cB cI cJ cZ h0 hQ hC k cf wm wv wn wt wx wy d v0 v3 v5 v6 v7 v8 v9 v10 v12 v13 v15 ts lf ar ct n) (qc_t_X11_stream dC dI cB cI cJ cZ h0 hQ hC k cf wm wv wn wt wx wy d v0 v3 v5 v6 v7 v8 v9 v10 v12 v13 v15 ts lf ar ct n (va_A (cs_t_X11_stream cB cI cJ cZ h0 hQ hC k cf wm wv wn wt wx wy d v0 v3 v5 v6 v7 v8 v9 v10 v12 v13 v15 ts lf ar ct n) sz)) 0 0 (va_A (cs_t_X11_stream cB cI cJ cZ h0 hQ hC k cf wm wv wn wt wx wy d v0 v3 v5 v6 v7 v8 v9 v10 v12 v13 v15 ts lf ar ct n) sz) := by
  refine Met.ofW (cc := cX11_stream) (maxL := 2) (ret := (some .int)) (by decide) rfl ?_
  intro p e s m args below meth c s₁ B hml hv
  obtain ⟨rfl, hsz, hP, hK, hD0⟩ := hv
  have hx := B.exec
  have hb := B.bytes
  have hr := B.returns
  have hts := atoms_spec (ws := (wsOf yX11_stream cX11_stream 2 (some .int))) B.pre
  have hown : s.vm.findClass RX11 = some m.cls := findClass_of_methodNamed B.named
  have hlocks := B.notSynchronized
  subst hsz
  have hD := hD0.self (sz := s.heap.size)
  generalize hAe : va_A (cs_t_X11_stream cB cI cJ cZ h0 hQ hC k cf wm wv wn wt wx wy d v0 v3 v5 v6 v7 v8 v9 v10 v12 v13 v15 ts lf ar ct n) s.heap.size = A at hD ⊢
  have hA : ∀ q : Nat, s.heap.size ≤ q → A q := fun q h => by rw [← hAe]; exact Or.inr h
  have hS : va_S A s.heap s.heap [] := va_S.rf
  have hP : va_P (dC, dI) vwCl [(h0, .inr (12, [v0, .int ts, .ref hQ, v3, .int lf, v5, v6, v7, v8, v9, v10, .int ar, v12, v13, .int ct, v15])), (hQ, .inr (8, [.int (nI k), .long wm, .ref hC, wv, wn, wt, wx, wy, .int d])), (hC, .inl (cI, 6, .inl cf))] s.heap := hP
  have hl := lv_entry ([.ref h0, .int n]) (n := 2) (Nat.le_of_ble_eq_true rfl)
  rw [lg_entry_eq]
  generalize (lg_sl ([.ref h0, .int n]) ++ List.replicate (2 - (lg_sl ([.ref h0, .int n])).length) Slot.unset).toArray = ls at hl ⊢
  have hl : lv_has ls 2 [(0, .ref h0), (1, .int n)] := hl
  refine lv_aload_n hx hb dX11_stream_0 rfl (lv_at hl 0 rfl) ?_
  refine va_get (D := (dC, dI)) (ci := 12) (v := .ref hQ) (C := RX11) (T := TX11) (N := 16) hx hb hts (fun w h => List.mem_cons_of_mem _ (uG_X11 w h)) hown hK hP 0 rfl rfl 2 (by decide) (hts _ (List.mem_cons_of_mem _ kw_430)) (fun _ h9 => h9) rfl dX11_stream_1 ?_
  refine lv_iload_n hx hb dX11_stream_4 rfl (lv_at hl 1 rfl) ?_
  have hPc := hP.sub (ws' := [(hQ, .inr (8, [.int (nI k), .long wm, .ref hC, wv, wn, wt, wx, wy, .int d])), (hC, .inl (cI, 6, .inl cf))]) [1, 2] rfl
  have hDc := hD.sub (ws' := [(hQ, .inr (8, [.int (nI k), .long wm, .ref hC, wv, wn, wt, wx, wy, .int d])), (hC, .inl (cI, 6, .inl cf))]) [1, 2] (by decide) rfl
  have hKc := hK.sub (tys' := [(cB, .byte), (cI, .int), (cJ, .long), (cZ, .boolean)]) [0, 1, 2, 3] rfl
  have hFc := va_free (wc := [(hQ, .inr (8, [.int (nI k), .long wm, .ref hC, wv, wn, wt, wx, wy, .int d])), (hC, .inl (cI, 6, .inl cf))]) hD hS hA [1, 2] rfl
  refine va_calli (va_runV (As := [.int n]) (rest := []) ⟨hx, hb, hml, hown, hts⟩ (t_X7_open l dC dI s.heap.size cB cI cJ cZ hQ hC k cf wm wv wn wt wx wy d n hk) (cwV 1 hts (gd_all (in_V kw_493 kw_494 kw_495 kw_182 kc_X7_open)) rfl rfl rfl (by decide +kernel) ⟨Nat.le_of_ble_eq_true rfl, Nat.le_of_ble_eq_true rfl⟩) ⟨fun a U g mk q => by obtain ⟨q0, q1, qP, qK, qD⟩ := q; exact ⟨q0, q1, qP, va_K.moved (u := U) (U := U.calling g mk a) (Vm.Alike.refl U.vm) qK, qD⟩, va_recv hKc hPc (ci := 8) (q0 := 0) rfl rfl, fun U hU hW => ⟨rfl, by rw [hU], by rw [hU]; exact hPc, va_K.moved hW.alike hKc, hDc.weaken (fun _ _ _ _ => trivial)⟩⟩ rfl rfl hl.1 rfl (lv_room (Nat.le_of_ble_eq_true rfl)) dX11_stream_5 ⟨Nat.le_of_ble_eq_true rfl, Nat.le_of_ble_eq_true rfl⟩) hS (fun q _ h => hFc q h) hFc (fun r_1 u t_ H1 locs ht hvm hw hB hz1 hk1 hS => ?_)
  obtain ⟨k2, c2⟩ := u
  obtain ⟨hP1, hK1, hD1⟩ := hB
  rw [ht] at hP1
  have hK1 := va_K.moved hvm.symm hK1
  obtain ⟨hP, hD⟩ := va_join (wr := [(h0, .inr (12, [v0, .int ts, .ref hQ, v3, .int lf, v5, v6, v7, v8, v9, v10, .int ar, v12, v13, .int ct, v15]))]) (w1 := [(hQ, .inr (8, [.int (nI k2), .long wm, .ref hC, wv, wn, wt, wx, wy, .int d])), (hC, .inl (cI, 6, .inl c2))]) hP hD [1, 2] [0] rfl rfl (by decide) (by decide) hk1 hFc hP1 hD1
  have hK := (hK.sub (tys' := []) [] rfl).app hK1
  generalize H1 = H at hP hS ⊢
  have hP : va_P (dC, dI) vwCl [(h0, .inr (12, [v0, .int ts, .ref hQ, v3, .int lf, v5, v6, v7, v8, v9, v10, .int ar, v12, v13, .int ct, v15])), (hQ, .inr (8, [.int (nI k2), .long wm, .ref hC, wv, wn, wt, wx, wy, .int d])), (hC, .inl (cI, 6, .inl c2))] H := hP
  have hD : va_D A [(h0, .inr (12, [v0, .int ts, .ref hQ, v3, .int lf, v5, v6, v7, v8, v9, v10, .int ar, v12, v13, .int ct, v15])), (hQ, .inr (8, [.int (nI k2), .long wm, .ref hC, wv, wn, wt, wx, wy, .int d])), (hC, .inl (cI, 6, .inl c2))] := hD
  have hK : va_K (dC, dI) vwCl [(cB, .byte), (cI, .int), (cJ, .long), (cZ, .boolean)] s := hK
  have hP9 := hP.sub (ws' := [(h0, .inr (12, [v0, .int ts, .ref hQ, v3, .int lf, v5, v6, v7, v8, v9, v10, .int ar, v12, v13, .int ct, v15])), (hQ, .inr (8, [.int (nI k2), .long wm, .ref hC, wv, wn, wt, wx, wy, .int d])), (hC, .inl (cI, 6, .inl c2))]) [0, 1, 2] rfl
  have hD9 := hD.sub (ws' := [(h0, .inr (12, [v0, .int ts, .ref hQ, v3, .int lf, v5, v6, v7, v8, v9, v10, .int ar, v12, v13, .int ct, v15])), (hQ, .inr (8, [.int (nI k2), .long wm, .ref hC, wv, wn, wt, wx, wy, .int d])), (hC, .inl (cI, 6, .inl c2))]) [0, 1, 2] (by decide) rfl
  have hK9 := hK.sub (tys' := [(cB, .byte), (cI, .int), (cJ, .long), (cZ, .boolean)]) [0, 1, 2, 3] rfl
  exact W.iret (v := r_1) hx hb hr (fun t_ ht hW => ⟨⟨r_1, (k2, c2), rfl, hw, by rw [ht]; exact hP9, va_K.moved hW.alike hK9, hD9⟩, hS.F ht⟩) hS.2.2 dX11_stream_8
theorem dX11_value_0 : decode cX11_value 0 = .ok (.aload_n 0, 1) := by decide +kernel
theorem dX11_value_1 : decode cX11_value 1 = .ok (.getfield 16, 3) := by decide +kernel
theorem dX11_value_4 : decode cX11_value 4 = .ok (.lload_n 1, 1) := by decide +kernel
theorem dX11_value_5 : decode cX11_value 5 = .ok (.iconst 0, 1) := by decide +kernel
theorem dX11_value_6 : decode cX11_value 6 = .ok (.invokevirtual 131, 3) := by decide +kernel
theorem dX11_value_9 : decode cX11_value 9 = .ok (.ireturn, 1) := by decide +kernel
abbrev cs_t_X11_value (cB cI cJ cZ : ClassId) (h0 hQ hX hY : Nat) (d : Nat) (xf : Nat → Int64) (yf : Nat → Int32) (wm : Int64) (wc wv wn wt : Value) (k : Int32) (v0 v3 v5 v6 v7 v8 v9 v10 v12 v13 v15 : Value) (ts lf ar ct : Int32) (v : Int64) : va_W := [(h0, .inr (12, [v0, .int ts, .ref hQ, v3, .int lf, v5, v6, v7, v8, v9, v10, .int ar, v12, v13, .int ct, v15])), (hQ, .inr (8, [.int k, .long wm, wc, wv, wn, wt, .ref hX, .ref hY, .int (nI d)])), (hX, .inl (cJ, 4, .inr (.inl xf))), (hY, .inl (cB, 4, .inl yf))]
abbrev pc_t_X11_value (dC : Nat → ClassId) (dI : Nat → Nat → Nat) (sz : Nat) (cB cI cJ cZ : ClassId) (h0 hQ hX hY : Nat) (d : Nat) (xf : Nat → Int64) (yf : Nat → Int32) (wm : Int64) (wc wv wn wt : Value) (k : Int32) (v0 v3 v5 v6 v7 v8 v9 v10 v12 v13 v15 : Value) (ts lf ar ct : Int32) (v : Int64) : Array Value → State → Prop := va_Pc [.ref h0, .long v] (fun U => U.heap.size = sz ∧ va_P (dC, dI) vwCl [(h0, .inr (12, [v0, .int ts, .ref hQ, v3, .int lf, v5, v6, v7, v8, v9, v10, .int ar, v12, v13, .int ct, v15])), (hQ, .inr (8, [.int k, .long wm, wc, wv, wn, wt, .ref hX, .ref hY, .int (nI d)])), (hX, .inl (cJ, 4, .inr (.inl xf))), (hY, .inl (cB, 4, .inl yf))] U.heap ∧ va_K (dC, dI) vwCl [(cB, .byte), (cI, .int), (cJ, .long), (cZ, .boolean)] U ∧ va_D (fun _ => True) [(h0, .inr (12, [v0, .int ts, .ref hQ, v3, .int lf, v5, v6, v7, v8, v9, v10, .int ar, v12, v13, .int ct, v15])), (hQ, .inr (8, [.int k, .long wm, wc, wv, wn, wt, .ref hX, .ref hY, .int (nI d)])), (hX, .inl (cJ, 4, .inr (.inl xf))), (hY, .inl (cB, 4, .inl yf))])
abbrev qc_t_X11_value (dC : Nat → ClassId) (dI : Nat → Nat → Nat) (cB cI cJ cZ : ClassId) (h0 hQ hX hY : Nat) (d : Nat) (xf : Nat → Int64) (yf : Nat → Int32) (wm : Int64) (wc wv wn wt : Value) (k : Int32) (v0 v3 v5 v6 v7 v8 v9 v10 v12 v13 v15 : Value) (ts lf ar ct : Int32) (v : Int64) (A : Nat → Prop) : Array Value → State → Outcome → State → Prop := va_Qi (fun (r : Int32) (u : Nat × (Nat → Int64) × (Nat → Int32)) => match u with | (d2, x2, y2) => r = drR d ∧ d2 = drK d ∧ x2 = drX xf d v ∧ y2 = drY yf d 0) (fun (u : Nat × (Nat → Int64) × (Nat → Int32)) t_ => match u with | (d2, x2, y2) => va_P (dC, dI) vwCl [(h0, .inr (12, [v0, .int ts, .ref hQ, v3, .int lf, v5, v6, v7, v8, v9, v10, .int ar, v12, v13, .int ct, v15])), (hQ, .inr (8, [.int k, .long wm, wc, wv, wn, wt, .ref hX, .ref hY, .int (nI d2)])), (hX, .inl (cJ, 4, .inr (.inl x2))), (hY, .inl (cB, 4, .inl y2))] t_.heap ∧ va_K (dC, dI) vwCl [(cB, .byte), (cI, .int), (cJ, .long), (cZ, .boolean)] t_ ∧ va_D A [(h0, .inr (12, [v0, .int ts, .ref hQ, v3, .int lf, v5, v6, v7, v8, v9, v10, .int ar, v12, v13, .int ct, v15])), (hQ, .inr (8, [.int k, .long wm, wc, wv, wn, wt, .ref hX, .ref hY, .int (nI d2)])), (hX, .inl (cJ, 4, .inr (.inl x2))), (hY, .inl (cB, 4, .inl y2))]) A
set_option maxHeartbeats 4000000 in
set_option maxRecDepth 100000 in
theorem t_X11_value (l : Launch) (dC : Nat → ClassId) (dI : Nat → Nat → Nat) (sz : Nat) (cB cI cJ cZ : ClassId) (h0 hQ hX hY : Nat) (d : Nat) (xf : Nat → Int64) (yf : Nat → Int32) (wm : Int64) (wc wv wn wt : Value) (k : Int32) (v0 v3 v5 v6 v7 v8 v9 v10 v12 v13 v15 : Value) (ts lf ar ct : Int32) (v : Int64) (hd : d ≤ 4) : Met l yX11_value (wsOf yX11_value cX11_value 3 (some .int)) ({ frames := 1, cells := 0, slots := 0, locals := 60 }) (pc_t_X11_value dC dI sz cB cI cJ cZ h0 hQ hX hY d xf yf wm wc wv wn wt k v0 v3 v5 v6 v7 v8 v9 v10 v12 v13 v15 ts lf ar ct v) (qc_t_X11_value dC dI cB cI cJ cZ h0 hQ hX hY d xf yf wm wc wv wn wt k v0 v3 v5 v6 v7 v8 v9 v10 v12 v13 v15 ts lf ar ct v (va_A (cs_t_X11_value cB cI cJ cZ h0 hQ hX hY d xf yf wm wc wv wn wt k v0 v3 v5 v6 v7 v8 v9 v10 v12 v13 v15 ts lf ar ct v) sz)) 0 0 (va_A (cs_t_X11_value cB cI cJ cZ h0 hQ hX hY d xf yf wm wc wv wn wt k v0 v3 v5 v6 v7 v8 v9 v10 v12 v13 v15 ts lf ar ct v) sz) := by
  refine Met.ofW (cc := cX11_value) (maxL := 3) (ret := (some .int)) (by decide) rfl ?_
  intro p e s m args below meth c s₁ B hml hv
  obtain ⟨rfl, hsz, hP, hK, hD0⟩ := hv
  have hx := B.exec
  have hb := B.bytes
  have hr := B.returns
  have hts := atoms_spec (ws := (wsOf yX11_value cX11_value 3 (some .int))) B.pre
  have hown : s.vm.findClass RX11 = some m.cls := findClass_of_methodNamed B.named
  have hlocks := B.notSynchronized
  subst hsz
  have hD := hD0.self (sz := s.heap.size)
  generalize hAe : va_A (cs_t_X11_value cB cI cJ cZ h0 hQ hX hY d xf yf wm wc wv wn wt k v0 v3 v5 v6 v7 v8 v9 v10 v12 v13 v15 ts lf ar ct v) s.heap.size = A at hD ⊢
  have hA : ∀ q : Nat, s.heap.size ≤ q → A q := fun q h => by rw [← hAe]; exact Or.inr h
  have hS : va_S A s.heap s.heap [] := va_S.rf
  have hP : va_P (dC, dI) vwCl [(h0, .inr (12, [v0, .int ts, .ref hQ, v3, .int lf, v5, v6, v7, v8, v9, v10, .int ar, v12, v13, .int ct, v15])), (hQ, .inr (8, [.int k, .long wm, wc, wv, wn, wt, .ref hX, .ref hY, .int (nI d)])), (hX, .inl (cJ, 4, .inr (.inl xf))), (hY, .inl (cB, 4, .inl yf))] s.heap := hP
  have hl := lv_entry ([.ref h0, .long v]) (n := 3) (Nat.le_of_ble_eq_true rfl)
  rw [lg_entry_eq]
  generalize (lg_sl ([.ref h0, .long v]) ++ List.replicate (3 - (lg_sl ([.ref h0, .long v])).length) Slot.unset).toArray = ls at hl ⊢
  have hl : lv_has ls 3 [(0, .ref h0), (1, .long v)] := hl
  refine lv_aload_n hx hb dX11_value_0 rfl (lv_at hl 0 rfl) ?_
  refine va_get (D := (dC, dI)) (ci := 12) (v := .ref hQ) (C := RX11) (T := TX11) (N := 16) hx hb hts (fun w h => List.mem_cons_of_mem _ (uG_X11 w h)) hown hK hP 0 rfl rfl 2 (by decide) (hts _ (List.mem_cons_of_mem _ kw_430)) (fun _ h9 => h9) rfl dX11_value_1 ?_
  refine lv_lload_n hx hb dX11_value_4 rfl (lv_at hl 1 rfl) ?_
  refine lv_iconst (v := 0) hx hb dX11_value_5 (by decide) ?_
  have hPc := hP.sub (ws' := [(hQ, .inr (8, [.int k, .long wm, wc, wv, wn, wt, .ref hX, .ref hY, .int (nI d)])), (hX, .inl (cJ, 4, .inr (.inl xf))), (hY, .inl (cB, 4, .inl yf))]) [1, 2, 3] rfl
  have hDc := hD.sub (ws' := [(hQ, .inr (8, [.int k, .long wm, wc, wv, wn, wt, .ref hX, .ref hY, .int (nI d)])), (hX, .inl (cJ, 4, .inr (.inl xf))), (hY, .inl (cB, 4, .inl yf))]) [1, 2, 3] (by decide) rfl
  have hKc := hK.sub (tys' := [(cB, .byte), (cI, .int), (cJ, .long), (cZ, .boolean)]) [0, 1, 2, 3] rfl
  have hFc := va_free (wc := [(hQ, .inr (8, [.int k, .long wm, wc, wv, wn, wt, .ref hX, .ref hY, .int (nI d)])), (hX, .inl (cJ, 4, .inr (.inl xf))), (hY, .inl (cB, 4, .inl yf))]) hD hS hA [1, 2, 3] rfl
  refine va_calli (va_runV (As := [.long v, .int 0]) (rest := []) ⟨hx, hb, hml, hown, hts⟩ (t_X7_draft l dC dI s.heap.size cB cI cJ cZ hQ hX hY d xf yf wm wc wv wn wt k v 0 hd) (cwV 2 hts (gd_all (in_V kw_1570 kw_1571 kw_1572 kw_182 kc_X7_draft)) rfl rfl rfl (by decide +kernel) ⟨Nat.le_of_ble_eq_true rfl, Nat.le_of_ble_eq_true rfl⟩) ⟨fun a U g mk q => by obtain ⟨q0, q1, qP, qK, qD⟩ := q; exact ⟨q0, q1, qP, va_K.moved (u := U) (U := U.calling g mk a) (Vm.Alike.refl U.vm) qK, qD⟩, va_recv hKc hPc (ci := 8) (q0 := 0) rfl rfl, fun U hU hW => ⟨rfl, by rw [hU], by rw [hU]; exact hPc, va_K.moved hW.alike hKc, hDc.weaken (fun _ _ _ _ => trivial)⟩⟩ rfl rfl hl.1 rfl (lv_room (Nat.le_of_ble_eq_true rfl)) dX11_value_6 ⟨Nat.le_of_ble_eq_true rfl, Nat.le_of_ble_eq_true rfl⟩) hS (fun q _ h => hFc q h) hFc (fun r_1 u t_ H1 locs ht hvm hw hB hz1 hk1 hS => ?_)
  obtain ⟨d2, x2, y2⟩ := u
  obtain ⟨hP1, hK1, hD1⟩ := hB
  rw [ht] at hP1
  have hK1 := va_K.moved hvm.symm hK1
  obtain ⟨hP, hD⟩ := va_join (wr := [(h0, .inr (12, [v0, .int ts, .ref hQ, v3, .int lf, v5, v6, v7, v8, v9, v10, .int ar, v12, v13, .int ct, v15]))]) (w1 := [(hQ, .inr (8, [.int k, .long wm, wc, wv, wn, wt, .ref hX, .ref hY, .int (nI d2)])), (hX, .inl (cJ, 4, .inr (.inl x2))), (hY, .inl (cB, 4, .inl y2))]) hP hD [1, 2, 3] [0] rfl rfl (by decide) (by decide) hk1 hFc hP1 hD1
  have hK := (hK.sub (tys' := []) [] rfl).app hK1
  generalize H1 = H at hP hS ⊢
  have hP : va_P (dC, dI) vwCl [(h0, .inr (12, [v0, .int ts, .ref hQ, v3, .int lf, v5, v6, v7, v8, v9, v10, .int ar, v12, v13, .int ct, v15])), (hQ, .inr (8, [.int k, .long wm, wc, wv, wn, wt, .ref hX, .ref hY, .int (nI d2)])), (hX, .inl (cJ, 4, .inr (.inl x2))), (hY, .inl (cB, 4, .inl y2))] H := hP
  have hD : va_D A [(h0, .inr (12, [v0, .int ts, .ref hQ, v3, .int lf, v5, v6, v7, v8, v9, v10, .int ar, v12, v13, .int ct, v15])), (hQ, .inr (8, [.int k, .long wm, wc, wv, wn, wt, .ref hX, .ref hY, .int (nI d2)])), (hX, .inl (cJ, 4, .inr (.inl x2))), (hY, .inl (cB, 4, .inl y2))] := hD
  have hK : va_K (dC, dI) vwCl [(cB, .byte), (cI, .int), (cJ, .long), (cZ, .boolean)] s := hK
  have hP9 := hP.sub (ws' := [(h0, .inr (12, [v0, .int ts, .ref hQ, v3, .int lf, v5, v6, v7, v8, v9, v10, .int ar, v12, v13, .int ct, v15])), (hQ, .inr (8, [.int k, .long wm, wc, wv, wn, wt, .ref hX, .ref hY, .int (nI d2)])), (hX, .inl (cJ, 4, .inr (.inl x2))), (hY, .inl (cB, 4, .inl y2))]) [0, 1, 2, 3] rfl
  have hD9 := hD.sub (ws' := [(h0, .inr (12, [v0, .int ts, .ref hQ, v3, .int lf, v5, v6, v7, v8, v9, v10, .int ar, v12, v13, .int ct, v15])), (hQ, .inr (8, [.int k, .long wm, wc, wv, wn, wt, .ref hX, .ref hY, .int (nI d2)])), (hX, .inl (cJ, 4, .inr (.inl x2))), (hY, .inl (cB, 4, .inl y2))]) [0, 1, 2, 3] (by decide) rfl
  have hK9 := hK.sub (tys' := [(cB, .byte), (cI, .int), (cJ, .long), (cZ, .boolean)]) [0, 1, 2, 3] rfl
  exact W.iret (v := r_1) hx hb hr (fun t_ ht hW => ⟨⟨r_1, (d2, x2, y2), rfl, hw, by rw [ht]; exact hP9, va_K.moved hW.alike hK9, hD9⟩, hS.F ht⟩) hS.2.2 dX11_value_9
theorem dX11_nothing_0 : decode cX11_nothing 0 = .ok (.aload_n 0, 1) := by decide +kernel
theorem dX11_nothing_1 : decode cX11_nothing 1 = .ok (.getfield 16, 3) := by decide +kernel
theorem dX11_nothing_4 : decode cX11_nothing 4 = .ok (.lconst 0, 1) := by decide +kernel
theorem dX11_nothing_5 : decode cX11_nothing 5 = .ok (.iconst 1, 1) := by decide +kernel
theorem dX11_nothing_6 : decode cX11_nothing 6 = .ok (.invokevirtual 131, 3) := by decide +kernel
theorem dX11_nothing_9 : decode cX11_nothing 9 = .ok (.ireturn, 1) := by decide +kernel
abbrev cs_t_X11_nothing (cB cI cJ cZ : ClassId) (h0 hQ hX hY : Nat) (d : Nat) (xf : Nat → Int64) (yf : Nat → Int32) (wm : Int64) (wc wv wn wt : Value) (k : Int32) (v0 v3 v5 v6 v7 v8 v9 v10 v12 v13 v15 : Value) (ts lf ar ct : Int32) : va_W := [(h0, .inr (12, [v0, .int ts, .ref hQ, v3, .int lf, v5, v6, v7, v8, v9, v10, .int ar, v12, v13, .int ct, v15])), (hQ, .inr (8, [.int k, .long wm, wc, wv, wn, wt, .ref hX, .ref hY, .int (nI d)])), (hX, .inl (cJ, 4, .inr (.inl xf))), (hY, .inl (cB, 4, .inl yf))]
abbrev pc_t_X11_nothing (dC : Nat → ClassId) (dI : Nat → Nat → Nat) (sz : Nat) (cB cI cJ cZ : ClassId) (h0 hQ hX hY : Nat) (d : Nat) (xf : Nat → Int64) (yf : Nat → Int32) (wm : Int64) (wc wv wn wt : Value) (k : Int32) (v0 v3 v5 v6 v7 v8 v9 v10 v12 v13 v15 : Value) (ts lf ar ct : Int32) : Array Value → State → Prop := va_Pc [.ref h0] (fun U => U.heap.size = sz ∧ va_P (dC, dI) vwCl [(h0, .inr (12, [v0, .int ts, .ref hQ, v3, .int lf, v5, v6, v7, v8, v9, v10, .int ar, v12, v13, .int ct, v15])), (hQ, .inr (8, [.int k, .long wm, wc, wv, wn, wt, .ref hX, .ref hY, .int (nI d)])), (hX, .inl (cJ, 4, .inr (.inl xf))), (hY, .inl (cB, 4, .inl yf))] U.heap ∧ va_K (dC, dI) vwCl [(cB, .byte), (cI, .int), (cJ, .long), (cZ, .boolean)] U ∧ va_D (fun _ => True) [(h0, .inr (12, [v0, .int ts, .ref hQ, v3, .int lf, v5, v6, v7, v8, v9, v10, .int ar, v12, v13, .int ct, v15])), (hQ, .inr (8, [.int k, .long wm, wc, wv, wn, wt, .ref hX, .ref hY, .int (nI d)])), (hX, .inl (cJ, 4, .inr (.inl xf))), (hY, .inl (cB, 4, .inl yf))])
abbrev qc_t_X11_nothing (dC : Nat → ClassId) (dI : Nat → Nat → Nat) (cB cI cJ cZ : ClassId) (h0 hQ hX hY : Nat) (d : Nat) (xf : Nat → Int64) (yf : Nat → Int32) (wm : Int64) (wc wv wn wt : Value) (k : Int32) (v0 v3 v5 v6 v7 v8 v9 v10 v12 v13 v15 : Value) (ts lf ar ct : Int32) (A : Nat → Prop) : Array Value → State → Outcome → State → Prop := va_Qi (fun (r : Int32) (u : Nat × (Nat → Int64) × (Nat → Int32)) => match u with | (d2, x2, y2) => r = drR d ∧ d2 = drK d ∧ x2 = drX xf d 0 ∧ y2 = drY yf d 1) (fun (u : Nat × (Nat → Int64) × (Nat → Int32)) t_ => match u with | (d2, x2, y2) => va_P (dC, dI) vwCl [(h0, .inr (12, [v0, .int ts, .ref hQ, v3, .int lf, v5, v6, v7, v8, v9, v10, .int ar, v12, v13, .int ct, v15])), (hQ, .inr (8, [.int k, .long wm, wc, wv, wn, wt, .ref hX, .ref hY, .int (nI d2)])), (hX, .inl (cJ, 4, .inr (.inl x2))), (hY, .inl (cB, 4, .inl y2))] t_.heap ∧ va_K (dC, dI) vwCl [(cB, .byte), (cI, .int), (cJ, .long), (cZ, .boolean)] t_ ∧ va_D A [(h0, .inr (12, [v0, .int ts, .ref hQ, v3, .int lf, v5, v6, v7, v8, v9, v10, .int ar, v12, v13, .int ct, v15])), (hQ, .inr (8, [.int k, .long wm, wc, wv, wn, wt, .ref hX, .ref hY, .int (nI d2)])), (hX, .inl (cJ, 4, .inr (.inl x2))), (hY, .inl (cB, 4, .inl y2))]) A
set_option maxHeartbeats 4000000 in
set_option maxRecDepth 100000 in
theorem t_X11_nothing (l : Launch) (dC : Nat → ClassId) (dI : Nat → Nat → Nat) (sz : Nat) (cB cI cJ cZ : ClassId) (h0 hQ hX hY : Nat) (d : Nat) (xf : Nat → Int64) (yf : Nat → Int32) (wm : Int64) (wc wv wn wt : Value) (k : Int32) (v0 v3 v5 v6 v7 v8 v9 v10 v12 v13 v15 : Value) (ts lf ar ct : Int32) (hd : d ≤ 4) : Met l yX11_nothing (wsOf yX11_nothing cX11_nothing 1 (some .int)) ({ frames := 1, cells := 0, slots := 0, locals := 60 }) (pc_t_X11_nothing dC dI sz cB cI cJ cZ h0 hQ hX hY d xf yf wm wc wv wn wt k v0 v3 v5 v6 v7 v8 v9 v10 v12 v13 v15 ts lf ar ct) (qc_t_X11_nothing dC dI cB cI cJ cZ h0 hQ hX hY d xf yf wm wc wv wn wt k v0 v3 v5 v6 v7 v8 v9 v10 v12 v13 v15 ts lf ar ct (va_A (cs_t_X11_nothing cB cI cJ cZ h0 hQ hX hY d xf yf wm wc wv wn wt k v0 v3 v5 v6 v7 v8 v9 v10 v12 v13 v15 ts lf ar ct) sz)) 0 0 (va_A (cs_t_X11_nothing cB cI cJ cZ h0 hQ hX hY d xf yf wm wc wv wn wt k v0 v3 v5 v6 v7 v8 v9 v10 v12 v13 v15 ts lf ar ct) sz) := by
  refine Met.ofW (cc := cX11_nothing) (maxL := 1) (ret := (some .int)) (by decide) rfl ?_
  intro p e s m args below meth c s₁ B hml hv
  obtain ⟨rfl, hsz, hP, hK, hD0⟩ := hv
  have hx := B.exec
  have hb := B.bytes
  have hr := B.returns
  have hts := atoms_spec (ws := (wsOf yX11_nothing cX11_nothing 1 (some .int))) B.pre
  have hown : s.vm.findClass RX11 = some m.cls := findClass_of_methodNamed B.named
  have hlocks := B.notSynchronized
  subst hsz
  have hD := hD0.self (sz := s.heap.size)
  generalize hAe : va_A (cs_t_X11_nothing cB cI cJ cZ h0 hQ hX hY d xf yf wm wc wv wn wt k v0 v3 v5 v6 v7 v8 v9 v10 v12 v13 v15 ts lf ar ct) s.heap.size = A at hD ⊢
  have hA : ∀ q : Nat, s.heap.size ≤ q → A q := fun q h => by rw [← hAe]; exact Or.inr h
  have hS : va_S A s.heap s.heap [] := va_S.rf
  have hP : va_P (dC, dI) vwCl [(h0, .inr (12, [v0, .int ts, .ref hQ, v3, .int lf, v5, v6, v7, v8, v9, v10, .int ar, v12, v13, .int ct, v15])), (hQ, .inr (8, [.int k, .long wm, wc, wv, wn, wt, .ref hX, .ref hY, .int (nI d)])), (hX, .inl (cJ, 4, .inr (.inl xf))), (hY, .inl (cB, 4, .inl yf))] s.heap := hP
  have hl := lv_entry ([.ref h0]) (n := 1) (Nat.le_of_ble_eq_true rfl)
  rw [lg_entry_eq]
  generalize (lg_sl ([.ref h0]) ++ List.replicate (1 - (lg_sl ([.ref h0])).length) Slot.unset).toArray = ls at hl ⊢
  have hl : lv_has ls 1 [(0, .ref h0)] := hl
  refine lv_aload_n hx hb dX11_nothing_0 rfl (lv_at hl 0 rfl) ?_
  refine va_get (D := (dC, dI)) (ci := 12) (v := .ref hQ) (C := RX11) (T := TX11) (N := 16) hx hb hts (fun w h => List.mem_cons_of_mem _ (uG_X11 w h)) hown hK hP 0 rfl rfl 2 (by decide) (hts _ (List.mem_cons_of_mem _ kw_430)) (fun _ h9 => h9) rfl dX11_nothing_1 ?_
  refine lv_lconst (v := 0) hx hb dX11_nothing_4 (by decide) ?_
  refine lv_iconst (v := 1) hx hb dX11_nothing_5 (by decide) ?_
  have hPc := hP.sub (ws' := [(hQ, .inr (8, [.int k, .long wm, wc, wv, wn, wt, .ref hX, .ref hY, .int (nI d)])), (hX, .inl (cJ, 4, .inr (.inl xf))), (hY, .inl (cB, 4, .inl yf))]) [1, 2, 3] rfl
  have hDc := hD.sub (ws' := [(hQ, .inr (8, [.int k, .long wm, wc, wv, wn, wt, .ref hX, .ref hY, .int (nI d)])), (hX, .inl (cJ, 4, .inr (.inl xf))), (hY, .inl (cB, 4, .inl yf))]) [1, 2, 3] (by decide) rfl
  have hKc := hK.sub (tys' := [(cB, .byte), (cI, .int), (cJ, .long), (cZ, .boolean)]) [0, 1, 2, 3] rfl
  have hFc := va_free (wc := [(hQ, .inr (8, [.int k, .long wm, wc, wv, wn, wt, .ref hX, .ref hY, .int (nI d)])), (hX, .inl (cJ, 4, .inr (.inl xf))), (hY, .inl (cB, 4, .inl yf))]) hD hS hA [1, 2, 3] rfl
  refine va_calli (va_runV (As := [.long 0, .int 1]) (rest := []) ⟨hx, hb, hml, hown, hts⟩ (t_X7_draft l dC dI s.heap.size cB cI cJ cZ hQ hX hY d xf yf wm wc wv wn wt k 0 1 hd) (cwV 2 hts (gd_all (in_V kw_1570 kw_1571 kw_1572 kw_182 kc_X7_draft)) rfl rfl rfl (by decide +kernel) ⟨Nat.le_of_ble_eq_true rfl, Nat.le_of_ble_eq_true rfl⟩) ⟨fun a U g mk q => by obtain ⟨q0, q1, qP, qK, qD⟩ := q; exact ⟨q0, q1, qP, va_K.moved (u := U) (U := U.calling g mk a) (Vm.Alike.refl U.vm) qK, qD⟩, va_recv hKc hPc (ci := 8) (q0 := 0) rfl rfl, fun U hU hW => ⟨rfl, by rw [hU], by rw [hU]; exact hPc, va_K.moved hW.alike hKc, hDc.weaken (fun _ _ _ _ => trivial)⟩⟩ rfl rfl hl.1 rfl (lv_room (Nat.le_of_ble_eq_true rfl)) dX11_nothing_6 ⟨Nat.le_of_ble_eq_true rfl, Nat.le_of_ble_eq_true rfl⟩) hS (fun q _ h => hFc q h) hFc (fun r_1 u t_ H1 locs ht hvm hw hB hz1 hk1 hS => ?_)
  obtain ⟨d2, x2, y2⟩ := u
  obtain ⟨hP1, hK1, hD1⟩ := hB
  rw [ht] at hP1
  have hK1 := va_K.moved hvm.symm hK1
  obtain ⟨hP, hD⟩ := va_join (wr := [(h0, .inr (12, [v0, .int ts, .ref hQ, v3, .int lf, v5, v6, v7, v8, v9, v10, .int ar, v12, v13, .int ct, v15]))]) (w1 := [(hQ, .inr (8, [.int k, .long wm, wc, wv, wn, wt, .ref hX, .ref hY, .int (nI d2)])), (hX, .inl (cJ, 4, .inr (.inl x2))), (hY, .inl (cB, 4, .inl y2))]) hP hD [1, 2, 3] [0] rfl rfl (by decide) (by decide) hk1 hFc hP1 hD1
  have hK := (hK.sub (tys' := []) [] rfl).app hK1
  generalize H1 = H at hP hS ⊢
  have hP : va_P (dC, dI) vwCl [(h0, .inr (12, [v0, .int ts, .ref hQ, v3, .int lf, v5, v6, v7, v8, v9, v10, .int ar, v12, v13, .int ct, v15])), (hQ, .inr (8, [.int k, .long wm, wc, wv, wn, wt, .ref hX, .ref hY, .int (nI d2)])), (hX, .inl (cJ, 4, .inr (.inl x2))), (hY, .inl (cB, 4, .inl y2))] H := hP
  have hD : va_D A [(h0, .inr (12, [v0, .int ts, .ref hQ, v3, .int lf, v5, v6, v7, v8, v9, v10, .int ar, v12, v13, .int ct, v15])), (hQ, .inr (8, [.int k, .long wm, wc, wv, wn, wt, .ref hX, .ref hY, .int (nI d2)])), (hX, .inl (cJ, 4, .inr (.inl x2))), (hY, .inl (cB, 4, .inl y2))] := hD
  have hK : va_K (dC, dI) vwCl [(cB, .byte), (cI, .int), (cJ, .long), (cZ, .boolean)] s := hK
  have hP9 := hP.sub (ws' := [(h0, .inr (12, [v0, .int ts, .ref hQ, v3, .int lf, v5, v6, v7, v8, v9, v10, .int ar, v12, v13, .int ct, v15])), (hQ, .inr (8, [.int k, .long wm, wc, wv, wn, wt, .ref hX, .ref hY, .int (nI d2)])), (hX, .inl (cJ, 4, .inr (.inl x2))), (hY, .inl (cB, 4, .inl y2))]) [0, 1, 2, 3] rfl
  have hD9 := hD.sub (ws' := [(h0, .inr (12, [v0, .int ts, .ref hQ, v3, .int lf, v5, v6, v7, v8, v9, v10, .int ar, v12, v13, .int ct, v15])), (hQ, .inr (8, [.int k, .long wm, wc, wv, wn, wt, .ref hX, .ref hY, .int (nI d2)])), (hX, .inl (cJ, 4, .inr (.inl x2))), (hY, .inl (cB, 4, .inl y2))]) [0, 1, 2, 3] (by decide) rfl
  have hK9 := hK.sub (tys' := [(cB, .byte), (cI, .int), (cJ, .long), (cZ, .boolean)]) [0, 1, 2, 3] rfl
  exact W.iret (v := r_1) hx hb hr (fun t_ ht hW => ⟨⟨r_1, (d2, x2, y2), rfl, hw, by rw [ht]; exact hP9, va_K.moved hW.alike hK9, hD9⟩, hS.F ht⟩) hS.2.2 dX11_nothing_9
theorem dX12_value_0 : decode cX12_value 0 = .ok (.aload_n 0, 1) := by decide +kernel
theorem dX12_value_1 : decode cX12_value 1 = .ok (.lload_n 1, 1) := by decide +kernel
theorem dX12_value_2 : decode cX12_value 2 = .ok (.iconst 0, 1) := by decide +kernel
theorem dX12_value_3 : decode cX12_value 3 = .ok (.invokevirtual 264, 3) := by decide +kernel
theorem dX12_value_6 : decode cX12_value 6 = .ok (.ireturn, 1) := by decide +kernel
abbrev cs_t_X12_value (cB cI cJ cZ : ClassId) (h0 : Nat) (a : Nat → Nat) (d : Nat) (xf : Nat → Int64) (yf : Nat → Int32) (f : Nat → Int32) (w : Int64) (v : Int64) : va_W := [(h0, .inr (13, moF a (upd f 11 (nI d)) w)), (a 12, .inl (cJ, 4, .inr (.inl xf))), (a 13, .inl (cZ, 4, .inl yf))]
abbrev pc_t_X12_value (dC : Nat → ClassId) (dI : Nat → Nat → Nat) (sz : Nat) (cB cI cJ cZ : ClassId) (h0 : Nat) (a : Nat → Nat) (d : Nat) (xf : Nat → Int64) (yf : Nat → Int32) (f : Nat → Int32) (w : Int64) (v : Int64) : Array Value → State → Prop := va_Pc [.ref h0, .long v] (fun U => U.heap.size = sz ∧ va_P (dC, dI) vwCl [(h0, .inr (13, moF a (upd f 11 (nI d)) w)), (a 12, .inl (cJ, 4, .inr (.inl xf))), (a 13, .inl (cZ, 4, .inl yf))] U.heap ∧ va_K (dC, dI) vwCl [(cB, .byte), (cI, .int), (cJ, .long), (cZ, .boolean)] U ∧ va_D (fun _ => True) [(h0, .inr (13, moF a (upd f 11 (nI d)) w)), (a 12, .inl (cJ, 4, .inr (.inl xf))), (a 13, .inl (cZ, 4, .inl yf))])
abbrev qc_t_X12_value (dC : Nat → ClassId) (dI : Nat → Nat → Nat) (cB cI cJ cZ : ClassId) (h0 : Nat) (a : Nat → Nat) (d : Nat) (xf : Nat → Int64) (yf : Nat → Int32) (f : Nat → Int32) (w : Int64) (v : Int64) (A : Nat → Prop) : Array Value → State → Outcome → State → Prop := va_Qi (fun (r : Int32) (u : Nat × (Nat → Int64) × (Nat → Int32)) => match u with | (d2, x2, y2) => r = drR d ∧ d2 = drK d ∧ x2 = drX xf d v ∧ y2 = drY yf d 0) (fun (u : Nat × (Nat → Int64) × (Nat → Int32)) t_ => match u with | (d2, x2, y2) => va_P (dC, dI) vwCl [(h0, .inr (13, moF a (upd f 11 (nI d2)) w)), (a 12, .inl (cJ, 4, .inr (.inl x2))), (a 13, .inl (cZ, 4, .inl y2))] t_.heap ∧ va_K (dC, dI) vwCl [(cB, .byte), (cI, .int), (cJ, .long), (cZ, .boolean)] t_ ∧ va_D A [(h0, .inr (13, moF a (upd f 11 (nI d2)) w)), (a 12, .inl (cJ, 4, .inr (.inl x2))), (a 13, .inl (cZ, 4, .inl y2))]) A
set_option maxHeartbeats 4000000 in
set_option maxRecDepth 100000 in
theorem t_X12_value (l : Launch) (dC : Nat → ClassId) (dI : Nat → Nat → Nat) (sz : Nat) (cB cI cJ cZ : ClassId) (h0 : Nat) (a : Nat → Nat) (d : Nat) (xf : Nat → Int64) (yf : Nat → Int32) (f : Nat → Int32) (w : Int64) (v : Int64) (hd : d ≤ 4) : Met l yX12_value (wsOf yX12_value cX12_value 3 (some .int)) ({ frames := 1, cells := 0, slots := 0, locals := 60 }) (pc_t_X12_value dC dI sz cB cI cJ cZ h0 a d xf yf f w v) (qc_t_X12_value dC dI cB cI cJ cZ h0 a d xf yf f w v (va_A (cs_t_X12_value cB cI cJ cZ h0 a d xf yf f w v) sz)) 0 0 (va_A (cs_t_X12_value cB cI cJ cZ h0 a d xf yf f w v) sz) := by
  refine Met.ofW (cc := cX12_value) (maxL := 3) (ret := (some .int)) (by decide) rfl ?_
  intro p e s m args below meth c s₁ B hml hv
  obtain ⟨rfl, hsz, hP, hK, hD0⟩ := hv
  have hx := B.exec
  have hb := B.bytes
  have hr := B.returns
  have hts := atoms_spec (ws := (wsOf yX12_value cX12_value 3 (some .int))) B.pre
  have hown : s.vm.findClass RX12 = some m.cls := findClass_of_methodNamed B.named
  have hlocks := B.notSynchronized
  subst hsz
  have hD := hD0.self (sz := s.heap.size)
  generalize hAe : va_A (cs_t_X12_value cB cI cJ cZ h0 a d xf yf f w v) s.heap.size = A at hD ⊢
  have hA : ∀ q : Nat, s.heap.size ≤ q → A q := fun q h => by rw [← hAe]; exact Or.inr h
  have hS : va_S A s.heap s.heap [] := va_S.rf
  have hP : va_P (dC, dI) vwCl [(h0, .inr (13, moF a (upd f 11 (nI d)) w)), (a 12, .inl (cJ, 4, .inr (.inl xf))), (a 13, .inl (cZ, 4, .inl yf))] s.heap := hP
  have hl := lv_entry ([.ref h0, .long v]) (n := 3) (Nat.le_of_ble_eq_true rfl)
  rw [lg_entry_eq]
  generalize (lg_sl ([.ref h0, .long v]) ++ List.replicate (3 - (lg_sl ([.ref h0, .long v])).length) Slot.unset).toArray = ls at hl ⊢
  have hl : lv_has ls 3 [(0, .ref h0), (1, .long v)] := hl
  refine lv_aload_n hx hb dX12_value_0 rfl (lv_at hl 0 rfl) ?_
  refine lv_lload_n hx hb dX12_value_1 rfl (lv_at hl 1 rfl) ?_
  refine lv_iconst (v := 0) hx hb dX12_value_2 (by decide) ?_
  have hPc := hP.sub (ws' := [(h0, .inr (13, moF a (upd f 11 (nI d)) w)), (a 12, .inl (cJ, 4, .inr (.inl xf))), (a 13, .inl (cZ, 4, .inl yf))]) [0, 1, 2] rfl
  have hDc := hD.sub (ws' := [(h0, .inr (13, moF a (upd f 11 (nI d)) w)), (a 12, .inl (cJ, 4, .inr (.inl xf))), (a 13, .inl (cZ, 4, .inl yf))]) [0, 1, 2] (by decide) rfl
  have hKc := hK.sub (tys' := [(cB, .byte), (cI, .int), (cJ, .long), (cZ, .boolean)]) [0, 1, 2, 3] rfl
  have hFc := va_free (wc := [(h0, .inr (13, moF a (upd f 11 (nI d)) w)), (a 12, .inl (cJ, 4, .inr (.inl xf))), (a 13, .inl (cZ, 4, .inl yf))]) hD hS hA [0, 1, 2] rfl
  refine va_calli (va_runV (As := [.long v, .int 0]) (rest := []) ⟨hx, hb, hml, hown, hts⟩ (t_X12_draft l dC dI s.heap.size cB cI cJ cZ h0 a d xf yf f w v 0 hd) (cwV 2 hts (gd_all (in_V kw_2058 kw_2060 kw_98 kw_191 kc_X12_draft)) rfl rfl rfl (by decide +kernel) ⟨Nat.le_of_ble_eq_true rfl, Nat.le_of_ble_eq_true rfl⟩) ⟨fun a U g mk q => by obtain ⟨q0, q1, qP, qK, qD⟩ := q; exact ⟨q0, q1, qP, va_K.moved (u := U) (U := U.calling g mk a) (Vm.Alike.refl U.vm) qK, qD⟩, va_recv hKc hPc (ci := 13) (q0 := 0) rfl rfl, fun U hU hW => ⟨rfl, by rw [hU], by rw [hU]; exact hPc, va_K.moved hW.alike hKc, hDc.weaken (fun _ _ _ _ => trivial)⟩⟩ rfl rfl hl.1 rfl (lv_room (Nat.le_of_ble_eq_true rfl)) dX12_value_3 ⟨Nat.le_of_ble_eq_true rfl, Nat.le_of_ble_eq_true rfl⟩) hS (fun q _ h => hFc q h) hFc (fun r_1 u t_ H1 locs ht hvm hw hB hz1 hk1 hS => ?_)
  obtain ⟨d2, x2, y2⟩ := u
  obtain ⟨hP1, hK1, hD1⟩ := hB
  rw [ht] at hP1
  have hK1 := va_K.moved hvm.symm hK1
  obtain ⟨hP, hD⟩ := va_join (wr := []) (w1 := [(h0, .inr (13, moF a (upd f 11 (nI d2)) w)), (a 12, .inl (cJ, 4, .inr (.inl x2))), (a 13, .inl (cZ, 4, .inl y2))]) hP hD [0, 1, 2] [] rfl rfl (by decide) (by decide) hk1 hFc hP1 hD1
  have hK := (hK.sub (tys' := []) [] rfl).app hK1
  generalize H1 = H at hP hS ⊢
  have hP : va_P (dC, dI) vwCl [(h0, .inr (13, moF a (upd f 11 (nI d2)) w)), (a 12, .inl (cJ, 4, .inr (.inl x2))), (a 13, .inl (cZ, 4, .inl y2))] H := hP
  have hD : va_D A [(h0, .inr (13, moF a (upd f 11 (nI d2)) w)), (a 12, .inl (cJ, 4, .inr (.inl x2))), (a 13, .inl (cZ, 4, .inl y2))] := hD
  have hK : va_K (dC, dI) vwCl [(cB, .byte), (cI, .int), (cJ, .long), (cZ, .boolean)] s := hK
  have hP9 := hP.sub (ws' := [(h0, .inr (13, moF a (upd f 11 (nI d2)) w)), (a 12, .inl (cJ, 4, .inr (.inl x2))), (a 13, .inl (cZ, 4, .inl y2))]) [0, 1, 2] rfl
  have hD9 := hD.sub (ws' := [(h0, .inr (13, moF a (upd f 11 (nI d2)) w)), (a 12, .inl (cJ, 4, .inr (.inl x2))), (a 13, .inl (cZ, 4, .inl y2))]) [0, 1, 2] (by decide) rfl
  have hK9 := hK.sub (tys' := [(cB, .byte), (cI, .int), (cJ, .long), (cZ, .boolean)]) [0, 1, 2, 3] rfl
  exact W.iret (v := r_1) hx hb hr (fun t_ ht hW => ⟨⟨r_1, (d2, x2, y2), rfl, hw, by rw [ht]; exact hP9, va_K.moved hW.alike hK9, hD9⟩, hS.F ht⟩) hS.2.2 dX12_value_6
theorem dX12_nothing_0 : decode cX12_nothing 0 = .ok (.aload_n 0, 1) := by decide +kernel
theorem dX12_nothing_1 : decode cX12_nothing 1 = .ok (.lconst 0, 1) := by decide +kernel
theorem dX12_nothing_2 : decode cX12_nothing 2 = .ok (.iconst 1, 1) := by decide +kernel
theorem dX12_nothing_3 : decode cX12_nothing 3 = .ok (.invokevirtual 264, 3) := by decide +kernel
theorem dX12_nothing_6 : decode cX12_nothing 6 = .ok (.ireturn, 1) := by decide +kernel
abbrev cs_t_X12_nothing (cB cI cJ cZ : ClassId) (h0 : Nat) (a : Nat → Nat) (d : Nat) (xf : Nat → Int64) (yf : Nat → Int32) (f : Nat → Int32) (w : Int64) : va_W := [(h0, .inr (13, moF a (upd f 11 (nI d)) w)), (a 12, .inl (cJ, 4, .inr (.inl xf))), (a 13, .inl (cZ, 4, .inl yf))]
abbrev pc_t_X12_nothing (dC : Nat → ClassId) (dI : Nat → Nat → Nat) (sz : Nat) (cB cI cJ cZ : ClassId) (h0 : Nat) (a : Nat → Nat) (d : Nat) (xf : Nat → Int64) (yf : Nat → Int32) (f : Nat → Int32) (w : Int64) : Array Value → State → Prop := va_Pc [.ref h0] (fun U => U.heap.size = sz ∧ va_P (dC, dI) vwCl [(h0, .inr (13, moF a (upd f 11 (nI d)) w)), (a 12, .inl (cJ, 4, .inr (.inl xf))), (a 13, .inl (cZ, 4, .inl yf))] U.heap ∧ va_K (dC, dI) vwCl [(cB, .byte), (cI, .int), (cJ, .long), (cZ, .boolean)] U ∧ va_D (fun _ => True) [(h0, .inr (13, moF a (upd f 11 (nI d)) w)), (a 12, .inl (cJ, 4, .inr (.inl xf))), (a 13, .inl (cZ, 4, .inl yf))])
abbrev qc_t_X12_nothing (dC : Nat → ClassId) (dI : Nat → Nat → Nat) (cB cI cJ cZ : ClassId) (h0 : Nat) (a : Nat → Nat) (d : Nat) (xf : Nat → Int64) (yf : Nat → Int32) (f : Nat → Int32) (w : Int64) (A : Nat → Prop) : Array Value → State → Outcome → State → Prop := va_Qi (fun (r : Int32) (u : Nat × (Nat → Int64) × (Nat → Int32)) => match u with | (d2, x2, y2) => r = drR d ∧ d2 = drK d ∧ x2 = drX xf d 0 ∧ y2 = drY yf d 1) (fun (u : Nat × (Nat → Int64) × (Nat → Int32)) t_ => match u with | (d2, x2, y2) => va_P (dC, dI) vwCl [(h0, .inr (13, moF a (upd f 11 (nI d2)) w)), (a 12, .inl (cJ, 4, .inr (.inl x2))), (a 13, .inl (cZ, 4, .inl y2))] t_.heap ∧ va_K (dC, dI) vwCl [(cB, .byte), (cI, .int), (cJ, .long), (cZ, .boolean)] t_ ∧ va_D A [(h0, .inr (13, moF a (upd f 11 (nI d2)) w)), (a 12, .inl (cJ, 4, .inr (.inl x2))), (a 13, .inl (cZ, 4, .inl y2))]) A
set_option maxHeartbeats 4000000 in
set_option maxRecDepth 100000 in
theorem t_X12_nothing (l : Launch) (dC : Nat → ClassId) (dI : Nat → Nat → Nat) (sz : Nat) (cB cI cJ cZ : ClassId) (h0 : Nat) (a : Nat → Nat) (d : Nat) (xf : Nat → Int64) (yf : Nat → Int32) (f : Nat → Int32) (w : Int64) (hd : d ≤ 4) : Met l yX12_nothing (wsOf yX12_nothing cX12_nothing 1 (some .int)) ({ frames := 1, cells := 0, slots := 0, locals := 60 }) (pc_t_X12_nothing dC dI sz cB cI cJ cZ h0 a d xf yf f w) (qc_t_X12_nothing dC dI cB cI cJ cZ h0 a d xf yf f w (va_A (cs_t_X12_nothing cB cI cJ cZ h0 a d xf yf f w) sz)) 0 0 (va_A (cs_t_X12_nothing cB cI cJ cZ h0 a d xf yf f w) sz) := by
  refine Met.ofW (cc := cX12_nothing) (maxL := 1) (ret := (some .int)) (by decide) rfl ?_
  intro p e s m args below meth c s₁ B hml hv
  obtain ⟨rfl, hsz, hP, hK, hD0⟩ := hv
  have hx := B.exec
  have hb := B.bytes
  have hr := B.returns
  have hts := atoms_spec (ws := (wsOf yX12_nothing cX12_nothing 1 (some .int))) B.pre
  have hown : s.vm.findClass RX12 = some m.cls := findClass_of_methodNamed B.named
  have hlocks := B.notSynchronized
  subst hsz
  have hD := hD0.self (sz := s.heap.size)
  generalize hAe : va_A (cs_t_X12_nothing cB cI cJ cZ h0 a d xf yf f w) s.heap.size = A at hD ⊢
  have hA : ∀ q : Nat, s.heap.size ≤ q → A q := fun q h => by rw [← hAe]; exact Or.inr h
  have hS : va_S A s.heap s.heap [] := va_S.rf
  have hP : va_P (dC, dI) vwCl [(h0, .inr (13, moF a (upd f 11 (nI d)) w)), (a 12, .inl (cJ, 4, .inr (.inl xf))), (a 13, .inl (cZ, 4, .inl yf))] s.heap := hP
  have hl := lv_entry ([.ref h0]) (n := 1) (Nat.le_of_ble_eq_true rfl)
  rw [lg_entry_eq]
  generalize (lg_sl ([.ref h0]) ++ List.replicate (1 - (lg_sl ([.ref h0])).length) Slot.unset).toArray = ls at hl ⊢
  have hl : lv_has ls 1 [(0, .ref h0)] := hl
  refine lv_aload_n hx hb dX12_nothing_0 rfl (lv_at hl 0 rfl) ?_
  refine lv_lconst (v := 0) hx hb dX12_nothing_1 (by decide) ?_
  refine lv_iconst (v := 1) hx hb dX12_nothing_2 (by decide) ?_
  have hPc := hP.sub (ws' := [(h0, .inr (13, moF a (upd f 11 (nI d)) w)), (a 12, .inl (cJ, 4, .inr (.inl xf))), (a 13, .inl (cZ, 4, .inl yf))]) [0, 1, 2] rfl
  have hDc := hD.sub (ws' := [(h0, .inr (13, moF a (upd f 11 (nI d)) w)), (a 12, .inl (cJ, 4, .inr (.inl xf))), (a 13, .inl (cZ, 4, .inl yf))]) [0, 1, 2] (by decide) rfl
  have hKc := hK.sub (tys' := [(cB, .byte), (cI, .int), (cJ, .long), (cZ, .boolean)]) [0, 1, 2, 3] rfl
  have hFc := va_free (wc := [(h0, .inr (13, moF a (upd f 11 (nI d)) w)), (a 12, .inl (cJ, 4, .inr (.inl xf))), (a 13, .inl (cZ, 4, .inl yf))]) hD hS hA [0, 1, 2] rfl
  refine va_calli (va_runV (As := [.long 0, .int 1]) (rest := []) ⟨hx, hb, hml, hown, hts⟩ (t_X12_draft l dC dI s.heap.size cB cI cJ cZ h0 a d xf yf f w 0 1 hd) (cwV 2 hts (gd_all (in_V kw_2058 kw_2060 kw_98 kw_191 kc_X12_draft)) rfl rfl rfl (by decide +kernel) ⟨Nat.le_of_ble_eq_true rfl, Nat.le_of_ble_eq_true rfl⟩) ⟨fun a U g mk q => by obtain ⟨q0, q1, qP, qK, qD⟩ := q; exact ⟨q0, q1, qP, va_K.moved (u := U) (U := U.calling g mk a) (Vm.Alike.refl U.vm) qK, qD⟩, va_recv hKc hPc (ci := 13) (q0 := 0) rfl rfl, fun U hU hW => ⟨rfl, by rw [hU], by rw [hU]; exact hPc, va_K.moved hW.alike hKc, hDc.weaken (fun _ _ _ _ => trivial)⟩⟩ rfl rfl hl.1 rfl (lv_room (Nat.le_of_ble_eq_true rfl)) dX12_nothing_3 ⟨Nat.le_of_ble_eq_true rfl, Nat.le_of_ble_eq_true rfl⟩) hS (fun q _ h => hFc q h) hFc (fun r_1 u t_ H1 locs ht hvm hw hB hz1 hk1 hS => ?_)
  obtain ⟨d2, x2, y2⟩ := u
  obtain ⟨hP1, hK1, hD1⟩ := hB
  rw [ht] at hP1
  have hK1 := va_K.moved hvm.symm hK1
  obtain ⟨hP, hD⟩ := va_join (wr := []) (w1 := [(h0, .inr (13, moF a (upd f 11 (nI d2)) w)), (a 12, .inl (cJ, 4, .inr (.inl x2))), (a 13, .inl (cZ, 4, .inl y2))]) hP hD [0, 1, 2] [] rfl rfl (by decide) (by decide) hk1 hFc hP1 hD1
  have hK := (hK.sub (tys' := []) [] rfl).app hK1
  generalize H1 = H at hP hS ⊢
  have hP : va_P (dC, dI) vwCl [(h0, .inr (13, moF a (upd f 11 (nI d2)) w)), (a 12, .inl (cJ, 4, .inr (.inl x2))), (a 13, .inl (cZ, 4, .inl y2))] H := hP
  have hD : va_D A [(h0, .inr (13, moF a (upd f 11 (nI d2)) w)), (a 12, .inl (cJ, 4, .inr (.inl x2))), (a 13, .inl (cZ, 4, .inl y2))] := hD
  have hK : va_K (dC, dI) vwCl [(cB, .byte), (cI, .int), (cJ, .long), (cZ, .boolean)] s := hK
  have hP9 := hP.sub (ws' := [(h0, .inr (13, moF a (upd f 11 (nI d2)) w)), (a 12, .inl (cJ, 4, .inr (.inl x2))), (a 13, .inl (cZ, 4, .inl y2))]) [0, 1, 2] rfl
  have hD9 := hD.sub (ws' := [(h0, .inr (13, moF a (upd f 11 (nI d2)) w)), (a 12, .inl (cJ, 4, .inr (.inl x2))), (a 13, .inl (cZ, 4, .inl y2))]) [0, 1, 2] (by decide) rfl
  have hK9 := hK.sub (tys' := [(cB, .byte), (cI, .int), (cJ, .long), (cZ, .boolean)]) [0, 1, 2, 3] rfl
  exact W.iret (v := r_1) hx hb hr (fun t_ ht hW => ⟨⟨r_1, (d2, x2, y2), rfl, hw, by rw [ht]; exact hP9, va_K.moved hW.alike hK9, hD9⟩, hS.F ht⟩) hS.2.2 dX12_nothing_6
theorem dX7_remove_0 : decode cX7_remove 0 = .ok (.aload_n 0, 1) := by decide +kernel
theorem dX7_remove_1 : decode cX7_remove 1 = .ok (.iload_n 1, 1) := by decide +kernel
theorem dX7_remove_2 : decode cX7_remove 2 = .ok (.iload_n 2, 1) := by decide +kernel
theorem dX7_remove_3 : decode cX7_remove 3 = .ok (.invokevirtual 62, 3) := by decide +kernel
theorem dX7_remove_6 : decode cX7_remove 6 = .ok (.ifCond .ne 5, 3) := by decide +kernel
theorem dX7_remove_9 : decode cX7_remove 9 = .ok (.iconst 0, 1) := by decide +kernel
theorem dX7_remove_10 : decode cX7_remove 10 = .ok (.ireturn, 1) := by decide +kernel
abbrev cs_t_X7_remove_oi (cB cI cJ cZ : ClassId) (h0 hC hH : Nat) (k : Nat) (cf tf : Nat → Int32) (wm : Int64) (wv wn wx wy : Value) (d : Int32) (x y : Int32) : va_W := [(h0, .inr (8, [.int (nI k), .long wm, .ref hC, wv, wn, .ref hH, wx, wy, .int d])), (hC, .inl (cI, 6, .inl cf)), (hH, .inl (cB, 48, .inl tf))]
abbrev pc_t_X7_remove_oi (dC : Nat → ClassId) (dI : Nat → Nat → Nat) (sz : Nat) (cB cI cJ cZ : ClassId) (h0 hC hH : Nat) (k : Nat) (cf tf : Nat → Int32) (wm : Int64) (wv wn wx wy : Value) (d : Int32) (x y : Int32) : Array Value → State → Prop := va_Pc [.ref h0, .int x, .int y] (fun U => U.heap.size = sz ∧ va_P (dC, dI) vwCl [(h0, .inr (8, [.int (nI k), .long wm, .ref hC, wv, wn, .ref hH, wx, wy, .int d])), (hC, .inl (cI, 6, .inl cf)), (hH, .inl (cB, 48, .inl tf))] U.heap ∧ va_K (dC, dI) vwCl [(cB, .byte), (cI, .int), (cJ, .long), (cZ, .boolean)] U ∧ va_D (fun _ => True) [(h0, .inr (8, [.int (nI k), .long wm, .ref hC, wv, wn, .ref hH, wx, wy, .int d])), (hC, .inl (cI, 6, .inl cf)), (hH, .inl (cB, 48, .inl tf))])
abbrev qc_t_X7_remove_oi (dC : Nat → ClassId) (dI : Nat → Nat → Nat) (cB cI cJ cZ : ClassId) (h0 hC hH : Nat) (k : Nat) (cf tf : Nat → Int32) (wm : Int64) (wv wn wx wy : Value) (d : Int32) (x y : Int32) (A : Nat → Prop) : Array Value → State → Outcome → State → Prop := va_Qi (fun (r : Int32) (u : Unit) => match u with | _ => r = 0) (fun (u : Unit) t_ => match u with | _ => va_P (dC, dI) vwCl [(h0, .inr (8, [.int (nI k), .long wm, .ref hC, wv, wn, .ref hH, wx, wy, .int d])), (hC, .inl (cI, 6, .inl cf)), (hH, .inl (cB, 48, .inl tf))] t_.heap ∧ va_K (dC, dI) vwCl [(cB, .byte), (cI, .int), (cJ, .long), (cZ, .boolean)] t_ ∧ va_D A [(h0, .inr (8, [.int (nI k), .long wm, .ref hC, wv, wn, .ref hH, wx, wy, .int d])), (hC, .inl (cI, 6, .inl cf)), (hH, .inl (cB, 48, .inl tf))]) A
set_option maxHeartbeats 4000000 in
set_option maxRecDepth 100000 in
theorem t_X7_remove_oi (l : Launch) (dC : Nat → ClassId) (dI : Nat → Nat → Nat) (sz : Nat) (cB cI cJ cZ : ClassId) (h0 hC hH : Nat) (k : Nat) (cf tf : Nat → Int32) (wm : Int64) (wv wn wx wy : Value) (d : Int32) (x y : Int32) (hk : k ≤ 6) (ho : x < 0 ∨ nI k ≤ x) : Met l yX7_remove (wsOf yX7_remove cX7_remove 3 (some .boolean)) ({ frames := 2, cells := 0, slots := 0, locals := 120 }) (pc_t_X7_remove_oi dC dI sz cB cI cJ cZ h0 hC hH k cf tf wm wv wn wx wy d x y) (qc_t_X7_remove_oi dC dI cB cI cJ cZ h0 hC hH k cf tf wm wv wn wx wy d x y (va_A (cs_t_X7_remove_oi cB cI cJ cZ h0 hC hH k cf tf wm wv wn wx wy d x y) sz)) 0 0 (va_A (cs_t_X7_remove_oi cB cI cJ cZ h0 hC hH k cf tf wm wv wn wx wy d x y) sz) := by
  refine Met.ofW (cc := cX7_remove) (maxL := 3) (ret := (some .boolean)) (by decide) rfl ?_
  intro p e s m args below meth c s₁ B hml hv
  obtain ⟨rfl, hsz, hP, hK, hD0⟩ := hv
  have hx := B.exec
  have hb := B.bytes
  have hr := B.returns
  have hts := atoms_spec (ws := (wsOf yX7_remove cX7_remove 3 (some .boolean))) B.pre
  have hown : s.vm.findClass RX7 = some m.cls := findClass_of_methodNamed B.named
  have hlocks := B.notSynchronized
  subst hsz
  have hD := hD0.self (sz := s.heap.size)
  generalize hAe : va_A (cs_t_X7_remove_oi cB cI cJ cZ h0 hC hH k cf tf wm wv wn wx wy d x y) s.heap.size = A at hD ⊢
  have hA : ∀ q : Nat, s.heap.size ≤ q → A q := fun q h => by rw [← hAe]; exact Or.inr h
  have hS : va_S A s.heap s.heap [] := va_S.rf
  have hP : va_P (dC, dI) vwCl [(h0, .inr (8, [.int (nI k), .long wm, .ref hC, wv, wn, .ref hH, wx, wy, .int d])), (hC, .inl (cI, 6, .inl cf)), (hH, .inl (cB, 48, .inl tf))] s.heap := hP
  have hl := lv_entry ([.ref h0, .int x, .int y]) (n := 3) (Nat.le_of_ble_eq_true rfl)
  rw [lg_entry_eq]
  generalize (lg_sl ([.ref h0, .int x, .int y]) ++ List.replicate (3 - (lg_sl ([.ref h0, .int x, .int y])).length) Slot.unset).toArray = ls at hl ⊢
  have hl : lv_has ls 3 [(0, .ref h0), (1, .int x), (2, .int y)] := hl
  refine lv_aload_n hx hb dX7_remove_0 rfl (lv_at hl 0 rfl) ?_
  refine lv_iload_n hx hb dX7_remove_1 rfl (lv_at hl 1 rfl) ?_
  refine lv_iload_n hx hb dX7_remove_2 rfl (lv_at hl 2 rfl) ?_
  have hPc := hP.sub (ws' := [(h0, .inr (8, [.int (nI k), .long wm, .ref hC, wv, wn, .ref hH, wx, wy, .int d])), (hC, .inl (cI, 6, .inl cf)), (hH, .inl (cB, 48, .inl tf))]) [0, 1, 2] rfl
  have hDc := hD.sub (ws' := [(h0, .inr (8, [.int (nI k), .long wm, .ref hC, wv, wn, .ref hH, wx, wy, .int d])), (hC, .inl (cI, 6, .inl cf)), (hH, .inl (cB, 48, .inl tf))]) [0, 1, 2] (by decide) rfl
  have hKc := hK.sub (tys' := [(cB, .byte), (cI, .int), (cJ, .long), (cZ, .boolean)]) [0, 1, 2, 3] rfl
  have hFc := va_free (wc := [(h0, .inr (8, [.int (nI k), .long wm, .ref hC, wv, wn, .ref hH, wx, wy, .int d])), (hC, .inl (cI, 6, .inl cf)), (hH, .inl (cB, 48, .inl tf))]) hD hS hA [0, 1, 2] rfl
  refine va_calli (va_runV (As := [.int x, .int y]) (rest := []) ⟨hx, hb, hml, hown, hts⟩ (t_X7_holds_oi l dC dI s.heap.size cB cI cJ cZ h0 hC hH k cf tf wm wv wn wx wy d x y hk ho) (cwV 2 hts (gd_all (in_V kw_1389 kw_1390 kw_1391 kw_182 kc_X7_holds)) rfl rfl rfl (by decide +kernel) ⟨Nat.le_of_ble_eq_true rfl, Nat.le_of_ble_eq_true rfl⟩) ⟨fun a U g mk q => by obtain ⟨q0, q1, qP, qK, qD⟩ := q; exact ⟨q0, q1, qP, va_K.moved (u := U) (U := U.calling g mk a) (Vm.Alike.refl U.vm) qK, qD⟩, va_recv hKc hPc (ci := 8) (q0 := 0) rfl rfl, fun U hU hW => ⟨rfl, by rw [hU], by rw [hU]; exact hPc, va_K.moved hW.alike hKc, hDc.weaken (fun _ _ _ _ => trivial)⟩⟩ rfl rfl hl.1 rfl (lv_room (Nat.le_of_ble_eq_true rfl)) dX7_remove_3 ⟨Nat.le_of_ble_eq_true rfl, Nat.le_of_ble_eq_true rfl⟩) hS (fun q _ h => hFc q h) hFc (fun r_1 u t_ H1 locs ht hvm hw hB hz1 hk1 hS => ?_)
  obtain ⟨hP1, hK1, hD1⟩ := hB
  rw [ht] at hP1
  have hK1 := va_K.moved hvm.symm hK1
  obtain ⟨hP, hD⟩ := va_join (wr := []) (w1 := [(h0, .inr (8, [.int (nI k), .long wm, .ref hC, wv, wn, .ref hH, wx, wy, .int d])), (hC, .inl (cI, 6, .inl cf)), (hH, .inl (cB, 48, .inl tf))]) hP hD [0, 1, 2] [] rfl rfl (by decide) (by decide) hk1 hFc hP1 hD1
  have hK := (hK.sub (tys' := []) [] rfl).app hK1
  generalize H1 = H at hP hS ⊢
  have hP : va_P (dC, dI) vwCl [(h0, .inr (8, [.int (nI k), .long wm, .ref hC, wv, wn, .ref hH, wx, wy, .int d])), (hC, .inl (cI, 6, .inl cf)), (hH, .inl (cB, 48, .inl tf))] H := hP
  have hD : va_D A [(h0, .inr (8, [.int (nI k), .long wm, .ref hC, wv, wn, .ref hH, wx, wy, .int d])), (hC, .inl (cI, 6, .inl cf)), (hH, .inl (cB, 48, .inl tf))] := hD
  have hK : va_K (dC, dI) vwCl [(cB, .byte), (cI, .int), (cJ, .long), (cZ, .boolean)] s := hK
  have er_1 : r_1 = 0 := hw
  rw [er_1]
  refine lv_if_ne (tgt := 11) hx hb dX7_remove_6 (by decide) (fun c_2 => ?_) (fun c_2 => ?_)
  · skip
    exact absurd c_2 (by decide)
  · skip
    refine lv_iconst (v := 0) hx hb dX7_remove_9 (by decide) ?_
    have hP9 := hP.sub (ws' := [(h0, .inr (8, [.int (nI k), .long wm, .ref hC, wv, wn, .ref hH, wx, wy, .int d])), (hC, .inl (cI, 6, .inl cf)), (hH, .inl (cB, 48, .inl tf))]) [0, 1, 2] rfl
    have hD9 := hD.sub (ws' := [(h0, .inr (8, [.int (nI k), .long wm, .ref hC, wv, wn, .ref hH, wx, wy, .int d])), (hC, .inl (cI, 6, .inl cf)), (hH, .inl (cB, 48, .inl tf))]) [0, 1, 2] (by decide) rfl
    have hK9 := hK.sub (tys' := [(cB, .byte), (cI, .int), (cJ, .long), (cZ, .boolean)]) [0, 1, 2, 3] rfl
    exact W.zret (v := 0) hx hb hr (by rfl) (fun t_ ht hW => ⟨⟨0, (), rfl, rfl, by rw [ht]; exact hP9, va_K.moved hW.alike hK9, hD9⟩, hS.F ht⟩) hS.2.2 dX7_remove_10
