theorem dX7_settle_0 : decode cX7_settle 0 = .ok (.aload_n 0, 1) := by decide +kernel
theorem dX7_settle_1 : decode cX7_settle 1 = .ok (.getfield 48, 3) := by decide +kernel
theorem dX7_settle_4 : decode cX7_settle 4 = .ok (.istore 4, 2) := by decide +kernel
theorem dX7_settle_6 : decode cX7_settle 6 = .ok (.aload_n 0, 1) := by decide +kernel
theorem dX7_settle_7 : decode cX7_settle 7 = .ok (.iconst 0, 1) := by decide +kernel
theorem dX7_settle_8 : decode cX7_settle 8 = .ok (.putfield 48, 3) := by decide +kernel
theorem dX7_settle_11 : decode cX7_settle 11 = .ok (.aload_n 0, 1) := by decide +kernel
theorem dX7_settle_12 : decode cX7_settle 12 = .ok (.iload_n 1, 1) := by decide +kernel
theorem dX7_settle_13 : decode cX7_settle 13 = .ok (.invokevirtual 44, 3) := by decide +kernel
theorem dX7_settle_16 : decode cX7_settle 16 = .ok (.ifCond .eq 13, 3) := by decide +kernel
theorem dX7_settle_29 : decode cX7_settle 29 = .ok (.iconst (-1), 1) := by decide +kernel
theorem dX7_settle_30 : decode cX7_settle 30 = .ok (.ireturn, 1) := by decide +kernel
abbrev cs_t_X7_settle_o (cB cI cJ cZ : ClassId) (h0 hC hV hN hH hX hY : Nat) (k : Nat) (cf : Nat → Int32) (vf : Nat → Int64) (nf tf : Nat → Int32) (xf : Nat → Int64) (yf : Nat → Int32) (wm : Int64) (d : Nat) (y : Int32) (x : Int64) : va_W := [(h0, .inr (8, [.int (nI k), .long wm, .ref hC, .ref hV, .ref hN, .ref hH, .ref hX, .ref hY, .int (nI d)])), (hC, .inl (cI, 6, .inl cf)), (hV, .inl (cJ, 240, .inr (.inl vf))), (hN, .inl (cB, 240, .inl nf)), (hH, .inl (cB, 48, .inl tf)), (hX, .inl (cJ, 4, .inr (.inl xf))), (hY, .inl (cB, 4, .inl yf))]
abbrev pc_t_X7_settle_o (dC : Nat → ClassId) (dI : Nat → Nat → Nat) (sz : Nat) (cB cI cJ cZ : ClassId) (h0 hC hV hN hH hX hY : Nat) (k : Nat) (cf : Nat → Int32) (vf : Nat → Int64) (nf tf : Nat → Int32) (xf : Nat → Int64) (yf : Nat → Int32) (wm : Int64) (d : Nat) (y : Int32) (x : Int64) : Array Value → State → Prop := va_Pc [.ref h0, .int y, .long x] (fun U => U.heap.size = sz ∧ va_P (dC, dI) vwCl [(h0, .inr (8, [.int (nI k), .long wm, .ref hC, .ref hV, .ref hN, .ref hH, .ref hX, .ref hY, .int (nI d)])), (hC, .inl (cI, 6, .inl cf)), (hV, .inl (cJ, 240, .inr (.inl vf))), (hN, .inl (cB, 240, .inl nf)), (hH, .inl (cB, 48, .inl tf)), (hX, .inl (cJ, 4, .inr (.inl xf))), (hY, .inl (cB, 4, .inl yf))] U.heap ∧ va_K (dC, dI) vwCl [(cB, .byte), (cI, .int), (cJ, .long), (cZ, .boolean)] U ∧ va_D (fun _ => True) [(h0, .inr (8, [.int (nI k), .long wm, .ref hC, .ref hV, .ref hN, .ref hH, .ref hX, .ref hY, .int (nI d)])), (hC, .inl (cI, 6, .inl cf)), (hV, .inl (cJ, 240, .inr (.inl vf))), (hN, .inl (cB, 240, .inl nf)), (hH, .inl (cB, 48, .inl tf)), (hX, .inl (cJ, 4, .inr (.inl xf))), (hY, .inl (cB, 4, .inl yf))])
abbrev qc_t_X7_settle_o (dC : Nat → ClassId) (dI : Nat → Nat → Nat) (cB cI cJ cZ : ClassId) (h0 hC hV hN hH hX hY : Nat) (k : Nat) (cf : Nat → Int32) (vf : Nat → Int64) (nf tf : Nat → Int32) (xf : Nat → Int64) (yf : Nat → Int32) (wm : Int64) (d : Nat) (y : Int32) (x : Int64) (A : Nat → Prop) : Array Value → State → Outcome → State → Prop := va_Qi (fun (r : Int32) (u : Unit) => match u with | _ => r = -1) (fun (u : Unit) t_ => match u with | _ => va_P (dC, dI) vwCl [(h0, .inr (8, [.int (nI k), .long wm, .ref hC, .ref hV, .ref hN, .ref hH, .ref hX, .ref hY, .int 0])), (hC, .inl (cI, 6, .inl cf)), (hV, .inl (cJ, 240, .inr (.inl vf))), (hN, .inl (cB, 240, .inl nf)), (hH, .inl (cB, 48, .inl tf)), (hX, .inl (cJ, 4, .inr (.inl xf))), (hY, .inl (cB, 4, .inl yf))] t_.heap ∧ va_K (dC, dI) vwCl [(cB, .byte), (cI, .int), (cJ, .long), (cZ, .boolean)] t_ ∧ va_D A [(h0, .inr (8, [.int (nI k), .long wm, .ref hC, .ref hV, .ref hN, .ref hH, .ref hX, .ref hY, .int 0])), (hC, .inl (cI, 6, .inl cf)), (hV, .inl (cJ, 240, .inr (.inl vf))), (hN, .inl (cB, 240, .inl nf)), (hH, .inl (cB, 48, .inl tf)), (hX, .inl (cJ, 4, .inr (.inl xf))), (hY, .inl (cB, 4, .inl yf))]) A
set_option maxHeartbeats 4000000 in
set_option maxRecDepth 100000 in
theorem t_X7_settle_o (l : Launch) (dC : Nat → ClassId) (dI : Nat → Nat → Nat) (sz : Nat) (cB cI cJ cZ : ClassId) (h0 hC hV hN hH hX hY : Nat) (k : Nat) (cf : Nat → Int32) (vf : Nat → Int64) (nf tf : Nat → Int32) (xf : Nat → Int64) (yf : Nat → Int32) (wm : Int64) (d : Nat) (y : Int32) (x : Int64) (hk : k ≤ 6) (ho : y < 0 ∨ nI k ≤ y) : Met l yX7_settle (wsOf yX7_settle cX7_settle 6 (some .int)) ({ frames := 3, cells := 0, slots := 0, locals := 180 }) (pc_t_X7_settle_o dC dI sz cB cI cJ cZ h0 hC hV hN hH hX hY k cf vf nf tf xf yf wm d y x) (qc_t_X7_settle_o dC dI cB cI cJ cZ h0 hC hV hN hH hX hY k cf vf nf tf xf yf wm d y x (va_A (cs_t_X7_settle_o cB cI cJ cZ h0 hC hV hN hH hX hY k cf vf nf tf xf yf wm d y x) sz)) 0 0 (va_A (cs_t_X7_settle_o cB cI cJ cZ h0 hC hV hN hH hX hY k cf vf nf tf xf yf wm d y x) sz) := by
  refine Met.ofW (cc := cX7_settle) (maxL := 6) (ret := (some .int)) (by decide) rfl ?_
  intro p e s m args below meth c s₁ B hml hv
  obtain ⟨rfl, hsz, hP, hK, hD0⟩ := hv
  have hx := B.exec
  have hb := B.bytes
  have hr := B.returns
  have hts := atoms_spec (ws := (wsOf yX7_settle cX7_settle 6 (some .int))) B.pre
  have hown : s.vm.findClass RX7 = some m.cls := findClass_of_methodNamed B.named
  have hlocks := B.notSynchronized
  subst hsz
  have hD := hD0.self (sz := s.heap.size)
  generalize hAe : va_A (cs_t_X7_settle_o cB cI cJ cZ h0 hC hV hN hH hX hY k cf vf nf tf xf yf wm d y x) s.heap.size = A at hD ⊢
  have hA : ∀ q : Nat, s.heap.size ≤ q → A q := fun q h => by rw [← hAe]; exact Or.inr h
  have hS : va_S A s.heap s.heap [] := va_S.rf
  have hP : va_P (dC, dI) vwCl [(h0, .inr (8, [.int (nI k), .long wm, .ref hC, .ref hV, .ref hN, .ref hH, .ref hX, .ref hY, .int (nI d)])), (hC, .inl (cI, 6, .inl cf)), (hV, .inl (cJ, 240, .inr (.inl vf))), (hN, .inl (cB, 240, .inl nf)), (hH, .inl (cB, 48, .inl tf)), (hX, .inl (cJ, 4, .inr (.inl xf))), (hY, .inl (cB, 4, .inl yf))] s.heap := hP
  have hl := lv_entry ([.ref h0, .int y, .long x]) (n := 6) (Nat.le_of_ble_eq_true rfl)
  rw [lg_entry_eq]
  generalize (lg_sl ([.ref h0, .int y, .long x]) ++ List.replicate (6 - (lg_sl ([.ref h0, .int y, .long x])).length) Slot.unset).toArray = ls at hl ⊢
  have hl : lv_has ls 6 [(0, .ref h0), (1, .int y), (2, .long x)] := hl
  refine lv_aload_n hx hb dX7_settle_0 rfl (lv_at hl 0 rfl) ?_
  refine va_get (D := (dC, dI)) (ci := 8) (v := .int (nI d)) (C := RX7) (T := TX7) (N := 9) hx hb hts (fun w h => List.mem_cons_of_mem _ (uG_X7 w h)) hown hK hP 0 rfl rfl 8 (by decide) (hts _ (List.mem_cons_of_mem _ kw_233)) (fun _ h9 => h9) rfl dX7_settle_1 ?_
  refine lv_istore (lv' := [(4, .int (nI d)), (0, .ref h0), (1, .int y), (2, .long x)]) hx hb dX7_settle_4 hl (by decide) rfl (fun ls hl => ?_)
  refine lv_aload_n hx hb dX7_settle_6 rfl (lv_at hl 1 rfl) ?_
  refine lv_iconst (v := 0) hx hb dX7_settle_7 (by decide) ?_
  refine va_put (D := (dC, dI)) (ci := 8) (v := .int 0) (ty := .int) (C := RX7) (T := TX7) (N := 9) hx hb hts (fun w h => List.mem_cons_of_mem _ (uG_X7 w h)) tyX7 tyX7_ok nmX7 hown hK hP hD hS 0 rfl rfl 8 (by decide) (hts _ (List.mem_cons_of_mem _ kw_233)) (fun _ h9 => h9) rfl (by decide +kernel) rfl rfl (Nat.le_of_ble_eq_true rfl) dX7_settle_8 (fun H locs hP hD hS => ?_)
  have hP : va_P (dC, dI) vwCl [(h0, .inr (8, [.int (nI k), .long wm, .ref hC, .ref hV, .ref hN, .ref hH, .ref hX, .ref hY, .int 0])), (hC, .inl (cI, 6, .inl cf)), (hV, .inl (cJ, 240, .inr (.inl vf))), (hN, .inl (cB, 240, .inl nf)), (hH, .inl (cB, 48, .inl tf)), (hX, .inl (cJ, 4, .inr (.inl xf))), (hY, .inl (cB, 4, .inl yf))] H := hP
  have hD : va_D A [(h0, .inr (8, [.int (nI k), .long wm, .ref hC, .ref hV, .ref hN, .ref hH, .ref hX, .ref hY, .int 0])), (hC, .inl (cI, 6, .inl cf)), (hV, .inl (cJ, 240, .inr (.inl vf))), (hN, .inl (cB, 240, .inl nf)), (hH, .inl (cB, 48, .inl tf)), (hX, .inl (cJ, 4, .inr (.inl xf))), (hY, .inl (cB, 4, .inl yf))] := hD
  refine lv_aload_n hx hb dX7_settle_11 rfl (lv_at hl 1 rfl) ?_
  refine lv_iload_n hx hb dX7_settle_12 rfl (lv_at hl 2 rfl) ?_
  have hPc := hP.sub (ws' := [(h0, .inr (8, [.int (nI k), .long wm, .ref hC, .ref hV, .ref hN, .ref hH, .ref hX, .ref hY, .int 0])), (hC, .inl (cI, 6, .inl cf))]) [0, 1] rfl
  have hDc := hD.sub (ws' := [(h0, .inr (8, [.int (nI k), .long wm, .ref hC, .ref hV, .ref hN, .ref hH, .ref hX, .ref hY, .int 0])), (hC, .inl (cI, 6, .inl cf))]) [0, 1] (by decide) rfl
  have hKc := hK.sub (tys' := [(cB, .byte), (cI, .int), (cJ, .long), (cZ, .boolean)]) [0, 1, 2, 3] rfl
  have hFc := va_free (wc := [(h0, .inr (8, [.int (nI k), .long wm, .ref hC, .ref hV, .ref hN, .ref hH, .ref hX, .ref hY, .int 0])), (hC, .inl (cI, 6, .inl cf))]) hD hS hA [0, 1] rfl
  refine va_calli (va_runV (As := [.int y]) (rest := []) ⟨hx, hb, hml, hown, hts⟩ (t_X7_exists_out l dC dI H.size cB cI cJ cZ h0 hC k cf wm (.ref hV) (.ref hN) (.ref hH) (.ref hX) (.ref hY) 0 y hk ho) (cwV 1 hts (gd_all (in_V kw_1237 kw_1230 kw_1231 kw_182 kc_X7_exists)) rfl rfl rfl (by decide +kernel) ⟨Nat.le_of_ble_eq_true rfl, Nat.le_of_ble_eq_true rfl⟩) ⟨fun a U g mk q => by obtain ⟨q0, q1, qP, qK, qD⟩ := q; exact ⟨q0, q1, qP, va_K.moved (u := U) (U := U.calling g mk a) (Vm.Alike.refl U.vm) qK, qD⟩, va_recv hKc hPc (ci := 8) (q0 := 0) rfl rfl, fun U hU hW => ⟨rfl, by rw [hU], by rw [hU]; exact hPc, va_K.moved hW.alike hKc, hDc.weaken (fun _ _ _ _ => trivial)⟩⟩ rfl rfl hl.1 rfl (lv_room (Nat.le_of_ble_eq_true rfl)) dX7_settle_13 ⟨Nat.le_of_ble_eq_true rfl, Nat.le_of_ble_eq_true rfl⟩) hS (fun q _ h => hFc q h) hFc (fun r_1 u t_ H1 locs ht hvm hw hB hz1 hk1 hS => ?_)
  obtain ⟨hP1, hK1, hD1⟩ := hB
  rw [ht] at hP1
  have hK1 := va_K.moved hvm.symm hK1
  obtain ⟨hP, hD⟩ := va_join (wr := [(hV, .inl (cJ, 240, .inr (.inl vf))), (hN, .inl (cB, 240, .inl nf)), (hH, .inl (cB, 48, .inl tf)), (hX, .inl (cJ, 4, .inr (.inl xf))), (hY, .inl (cB, 4, .inl yf))]) (w1 := [(h0, .inr (8, [.int (nI k), .long wm, .ref hC, .ref hV, .ref hN, .ref hH, .ref hX, .ref hY, .int 0])), (hC, .inl (cI, 6, .inl cf))]) hP hD [0, 1] [2, 3, 4, 5, 6] rfl rfl (by decide) (by decide) hk1 hFc hP1 hD1
  have hK := (hK.sub (tys' := []) [] rfl).app hK1
  generalize H1 = H at hP hS ⊢
  have hP : va_P (dC, dI) vwCl [(hV, .inl (cJ, 240, .inr (.inl vf))), (hN, .inl (cB, 240, .inl nf)), (hH, .inl (cB, 48, .inl tf)), (hX, .inl (cJ, 4, .inr (.inl xf))), (hY, .inl (cB, 4, .inl yf)), (h0, .inr (8, [.int (nI k), .long wm, .ref hC, .ref hV, .ref hN, .ref hH, .ref hX, .ref hY, .int 0])), (hC, .inl (cI, 6, .inl cf))] H := hP
  have hD : va_D A [(hV, .inl (cJ, 240, .inr (.inl vf))), (hN, .inl (cB, 240, .inl nf)), (hH, .inl (cB, 48, .inl tf)), (hX, .inl (cJ, 4, .inr (.inl xf))), (hY, .inl (cB, 4, .inl yf)), (h0, .inr (8, [.int (nI k), .long wm, .ref hC, .ref hV, .ref hN, .ref hH, .ref hX, .ref hY, .int 0])), (hC, .inl (cI, 6, .inl cf))] := hD
  have hK : va_K (dC, dI) vwCl [(cB, .byte), (cI, .int), (cJ, .long), (cZ, .boolean)] s := hK
  have er_1 : r_1 = 0 := hw
  rw [er_1]
  refine lv_if_eq (tgt := 29) hx hb dX7_settle_16 (by decide) (fun c_2 => ?_) (fun c_2 => ?_)
  · skip
    refine lv_iconst (v := (-1)) hx hb dX7_settle_29 (by decide) ?_
    have hP9 := hP.sub (ws' := [(h0, .inr (8, [.int (nI k), .long wm, .ref hC, .ref hV, .ref hN, .ref hH, .ref hX, .ref hY, .int 0])), (hC, .inl (cI, 6, .inl cf)), (hV, .inl (cJ, 240, .inr (.inl vf))), (hN, .inl (cB, 240, .inl nf)), (hH, .inl (cB, 48, .inl tf)), (hX, .inl (cJ, 4, .inr (.inl xf))), (hY, .inl (cB, 4, .inl yf))]) [5, 6, 0, 1, 2, 3, 4] rfl
    have hD9 := hD.sub (ws' := [(h0, .inr (8, [.int (nI k), .long wm, .ref hC, .ref hV, .ref hN, .ref hH, .ref hX, .ref hY, .int 0])), (hC, .inl (cI, 6, .inl cf)), (hV, .inl (cJ, 240, .inr (.inl vf))), (hN, .inl (cB, 240, .inl nf)), (hH, .inl (cB, 48, .inl tf)), (hX, .inl (cJ, 4, .inr (.inl xf))), (hY, .inl (cB, 4, .inl yf))]) [5, 6, 0, 1, 2, 3, 4] (by decide) rfl
    have hK9 := hK.sub (tys' := [(cB, .byte), (cI, .int), (cJ, .long), (cZ, .boolean)]) [0, 1, 2, 3] rfl
    exact W.iret (v := (-1)) hx hb hr (fun t_ ht hW => ⟨⟨(-1), (), rfl, rfl, by rw [ht]; exact hP9, va_K.moved hW.alike hK9, hD9⟩, hS.F ht⟩) hS.2.2 dX7_settle_30
  · skip
    exact absurd c_2 (by decide)
