theorem dX12_renew_0 : decode cX12_renew 0 = .ok (.aload_n 0, 1) := by decide +kernel
theorem dX12_renew_1 : decode cX12_renew 1 = .ok (.getfield 584, 3) := by decide +kernel
theorem dX12_renew_4 : decode cX12_renew 4 = .ok (.ifCond .ne 4, 3) := by decide +kernel
theorem dX12_renew_7 : decode cX12_renew 7 = .ok (.return_, 1) := by decide +kernel
abbrev cs_t_X12_renew_0 (cB cI cJ cZ : ClassId) (h0 : Nat) (a : Nat → Nat) (f : Nat → Int32) (w : Int64) (x : Int32) : va_W := [(h0, .inr (13, moF a f w))]
abbrev pc_t_X12_renew_0 (dC : Nat → ClassId) (dI : Nat → Nat → Nat) (sz : Nat) (cB cI cJ cZ : ClassId) (h0 : Nat) (a : Nat → Nat) (f : Nat → Int32) (w : Int64) (x : Int32) : Array Value → State → Prop := va_Pc [.ref h0, .int x] (fun U => U.heap.size = sz ∧ va_P (dC, dI) vwCl [(h0, .inr (13, moF a f w))] U.heap ∧ va_K (dC, dI) vwCl [(cB, .byte), (cI, .int), (cJ, .long), (cZ, .boolean)] U ∧ va_D (fun _ => True) [(h0, .inr (13, moF a f w))])
abbrev qc_t_X12_renew_0 (dC : Nat → ClassId) (dI : Nat → Nat → Nat) (cB cI cJ cZ : ClassId) (h0 : Nat) (a : Nat → Nat) (f : Nat → Int32) (w : Int64) (x : Int32) (A : Nat → Prop) : Array Value → State → Outcome → State → Prop := va_Qv (fun (u : Unit) => match u with | _ => True) (fun (u : Unit) t_ => match u with | _ => va_P (dC, dI) vwCl [(h0, .inr (13, moF a f w))] t_.heap ∧ va_K (dC, dI) vwCl [(cB, .byte), (cI, .int), (cJ, .long), (cZ, .boolean)] t_ ∧ va_D A [(h0, .inr (13, moF a f w))]) A
set_option maxHeartbeats 4000000 in
set_option maxRecDepth 100000 in
theorem t_X12_renew_0 (l : Launch) (dC : Nat → ClassId) (dI : Nat → Nat → Nat) (sz : Nat) (cB cI cJ cZ : ClassId) (h0 : Nat) (a : Nat → Nat) (f : Nat → Int32) (w : Int64) (x : Int32) (hhq : f 81 = 0) : Met l yX12_renew (wsOf yX12_renew cX12_renew 8 none) ({ frames := 0, cells := 0, slots := 0, locals := 0 }) (pc_t_X12_renew_0 dC dI sz cB cI cJ cZ h0 a f w x) (qc_t_X12_renew_0 dC dI cB cI cJ cZ h0 a f w x (va_A (cs_t_X12_renew_0 cB cI cJ cZ h0 a f w x) sz)) 0 0 (va_A (cs_t_X12_renew_0 cB cI cJ cZ h0 a f w x) sz) := by
  refine Met.ofW (cc := cX12_renew) (maxL := 8) (ret := none) (by decide) rfl ?_
  intro p e s m args below meth c s₁ B hml hv
  obtain ⟨rfl, hsz, hP, hK, hD0⟩ := hv
  have hx := B.exec
  have hb := B.bytes
  have hr := B.returns
  have hts := atoms_spec (ws := (wsOf yX12_renew cX12_renew 8 none)) B.pre
  have hown : s.vm.findClass RX12 = some m.cls := findClass_of_methodNamed B.named
  have hlocks := B.notSynchronized
  subst hsz
  have hD := hD0.self (sz := s.heap.size)
  generalize hAe : va_A (cs_t_X12_renew_0 cB cI cJ cZ h0 a f w x) s.heap.size = A at hD ⊢
  have hA : ∀ q : Nat, s.heap.size ≤ q → A q := fun q h => by rw [← hAe]; exact Or.inr h
  have hS : va_S A s.heap s.heap [] := va_S.rf
  have hP : va_P (dC, dI) vwCl [(h0, .inr (13, moF a f w))] s.heap := hP
  have hl := lv_entry ([.ref h0, .int x]) (n := 8) (Nat.le_of_ble_eq_true rfl)
  rw [lg_entry_eq]
  generalize (lg_sl ([.ref h0, .int x]) ++ List.replicate (8 - (lg_sl ([.ref h0, .int x])).length) Slot.unset).toArray = ls at hl ⊢
  have hl : lv_has ls 8 [(0, .ref h0), (1, .int x)] := hl
  refine lv_aload_n hx hb dX12_renew_0 rfl (lv_at hl 0 rfl) ?_
  refine va_get (D := (dC, dI)) (ci := 13) (v := .int (f 81)) (C := RX12) (T := TX12) (N := 115) hx hb hts (fun w h => List.mem_cons_of_mem _ (uG_X12 w h)) hown hK hP 0 rfl rfl 81 (by decide) (hts _ (List.mem_cons_of_mem _ kw_1772)) (fun _ h9 => h9) rfl dX12_renew_1 ?_
  refine lv_if_ne (tgt := 8) hx hb dX12_renew_4 (by decide) (fun c_1 => ?_) (fun c_1 => ?_)
  · skip
    exact absurd hhq c_1
  · skip
    have hP9 := hP.sub (ws' := [(h0, .inr (13, moF a f w))]) [0] rfl
    have hD9 := hD.sub (ws' := [(h0, .inr (13, moF a f w))]) [0] (by decide) rfl
    have hK9 := hK.sub (tys' := [(cB, .byte), (cI, .int), (cJ, .long), (cZ, .boolean)]) [0, 1, 2, 3] rfl
    exact W.vret hx hb hr (fun t_ ht hW => ⟨⟨(), rfl, trivial, by rw [ht]; exact hP9, va_K.moved hW.alike hK9, hD9⟩, hS.F ht⟩) hS.2.2 dX12_renew_7
theorem dX12_watermark_0 : decode cX12_watermark 0 = .ok (.aload_n 0, 1) := by decide +kernel
theorem dX12_watermark_1 : decode cX12_watermark 1 = .ok (.iconst 0, 1) := by decide +kernel
theorem dX12_watermark_2 : decode cX12_watermark 2 = .ok (.putfield 271, 3) := by decide +kernel
theorem dX12_watermark_5 : decode cX12_watermark 5 = .ok (.lload_n 1, 1) := by decide +kernel
theorem dX12_watermark_6 : decode cX12_watermark 6 = .ok (.aload_n 0, 1) := by decide +kernel
theorem dX12_watermark_7 : decode cX12_watermark 7 = .ok (.getfield 249, 3) := by decide +kernel
theorem dX12_watermark_10 : decode cX12_watermark 10 = .ok (.lcmp, 1) := by decide +kernel
theorem dX12_watermark_11 : decode cX12_watermark 11 = .ok (.ifCond .le 13, 3) := by decide +kernel
theorem dX12_watermark_14 : decode cX12_watermark 14 = .ok (.aload_n 0, 1) := by decide +kernel
theorem dX12_watermark_15 : decode cX12_watermark 15 = .ok (.lload_n 1, 1) := by decide +kernel
theorem dX12_watermark_16 : decode cX12_watermark 16 = .ok (.putfield 249, 3) := by decide +kernel
theorem dX12_watermark_19 : decode cX12_watermark 19 = .ok (.aload_n 0, 1) := by decide +kernel
theorem dX12_watermark_20 : decode cX12_watermark 20 = .ok (.iconst 1, 1) := by decide +kernel
theorem dX12_watermark_21 : decode cX12_watermark 21 = .ok (.invokevirtual 274, 3) := by decide +kernel
theorem dX12_watermark_24 : decode cX12_watermark 24 = .ok (.aload_n 0, 1) := by decide +kernel
theorem dX12_watermark_25 : decode cX12_watermark 25 = .ok (.getfield 271, 3) := by decide +kernel
theorem dX12_watermark_28 : decode cX12_watermark 28 = .ok (.ireturn, 1) := by decide +kernel
abbrev cs_t_X12_watermark_0 (cB cI cJ cZ : ClassId) (h0 : Nat) (a : Nat → Nat) (f : Nat → Int32) (w : Int64) (x : Int64) : va_W := [(h0, .inr (13, moF a f w))]
abbrev pc_t_X12_watermark_0 (dC : Nat → ClassId) (dI : Nat → Nat → Nat) (sz : Nat) (cB cI cJ cZ : ClassId) (h0 : Nat) (a : Nat → Nat) (f : Nat → Int32) (w : Int64) (x : Int64) : Array Value → State → Prop := va_Pc [.ref h0, .long x] (fun U => U.heap.size = sz ∧ va_P (dC, dI) vwCl [(h0, .inr (13, moF a f w))] U.heap ∧ va_K (dC, dI) vwCl [(cB, .byte), (cI, .int), (cJ, .long), (cZ, .boolean)] U ∧ va_D (fun _ => True) [(h0, .inr (13, moF a f w))])
abbrev qc_t_X12_watermark_0 (dC : Nat → ClassId) (dI : Nat → Nat → Nat) (cB cI cJ cZ : ClassId) (h0 : Nat) (a : Nat → Nat) (f : Nat → Int32) (w : Int64) (x : Int64) (A : Nat → Prop) : Array Value → State → Outcome → State → Prop := va_Qi (fun (r : Int32) (u : Int64) => match u with | w2 => r = 0 ∧ w2 = if x ≤ w then w else x) (fun (u : Int64) t_ => match u with | w2 => va_P (dC, dI) vwCl [(h0, .inr (13, moF a (upd f 110 0) w2))] t_.heap ∧ va_K (dC, dI) vwCl [(cB, .byte), (cI, .int), (cJ, .long), (cZ, .boolean)] t_ ∧ va_D A [(h0, .inr (13, moF a (upd f 110 0) w2))]) A
set_option maxHeartbeats 4000000 in
set_option maxRecDepth 100000 in
theorem t_X12_watermark_0 (l : Launch) (dC : Nat → ClassId) (dI : Nat → Nat → Nat) (sz : Nat) (cB cI cJ cZ : ClassId) (h0 : Nat) (a : Nat → Nat) (f : Nat → Int32) (w : Int64) (x : Int64) (hhq : f 81 = 0) : Met l yX12_watermark (wsOf yX12_watermark cX12_watermark 3 (some .int)) ({ frames := 1, cells := 0, slots := 0, locals := 60 }) (pc_t_X12_watermark_0 dC dI sz cB cI cJ cZ h0 a f w x) (qc_t_X12_watermark_0 dC dI cB cI cJ cZ h0 a f w x (va_A (cs_t_X12_watermark_0 cB cI cJ cZ h0 a f w x) sz)) 0 0 (va_A (cs_t_X12_watermark_0 cB cI cJ cZ h0 a f w x) sz) := by
  refine Met.ofW (cc := cX12_watermark) (maxL := 3) (ret := (some .int)) (by decide) rfl ?_
  intro p e s m args below meth c s₁ B hml hv
  obtain ⟨rfl, hsz, hP, hK, hD0⟩ := hv
  have hx := B.exec
  have hb := B.bytes
  have hr := B.returns
  have hts := atoms_spec (ws := (wsOf yX12_watermark cX12_watermark 3 (some .int))) B.pre
  have hown : s.vm.findClass RX12 = some m.cls := findClass_of_methodNamed B.named
  have hlocks := B.notSynchronized
  subst hsz
  have hD := hD0.self (sz := s.heap.size)
  generalize hAe : va_A (cs_t_X12_watermark_0 cB cI cJ cZ h0 a f w x) s.heap.size = A at hD ⊢
  have hA : ∀ q : Nat, s.heap.size ≤ q → A q := fun q h => by rw [← hAe]; exact Or.inr h
  have hS : va_S A s.heap s.heap [] := va_S.rf
  have hP : va_P (dC, dI) vwCl [(h0, .inr (13, moF a f w))] s.heap := hP
  have hl := lv_entry ([.ref h0, .long x]) (n := 3) (Nat.le_of_ble_eq_true rfl)
  rw [lg_entry_eq]
  generalize (lg_sl ([.ref h0, .long x]) ++ List.replicate (3 - (lg_sl ([.ref h0, .long x])).length) Slot.unset).toArray = ls at hl ⊢
  have hl : lv_has ls 3 [(0, .ref h0), (1, .long x)] := hl
  refine lv_aload_n hx hb dX12_watermark_0 rfl (lv_at hl 0 rfl) ?_
  refine lv_iconst (v := 0) hx hb dX12_watermark_1 (by decide) ?_
  refine va_put (D := (dC, dI)) (ci := 13) (v := .int 0) (ty := .int) (C := RX12) (T := TX12) (N := 115) hx hb hts (fun w h => List.mem_cons_of_mem _ (uG_X12 w h)) tyX12 tyX12_ok nmX12 hown hK hP hD hS 0 rfl rfl 110 (by decide) (hts _ (List.mem_cons_of_mem _ kw_1801)) (fun _ h9 => h9) rfl (by decide +kernel) rfl rfl (Nat.le_of_ble_eq_true rfl) dX12_watermark_2 (fun H locs hP hD hS => ?_)
  have hP : va_P (dC, dI) vwCl [(h0, .inr (13, moF a (upd f 110 0) w))] H := hP
  have hD : va_D A [(h0, .inr (13, moF a (upd f 110 0) w))] := hD
  refine lv_lload_n hx hb dX12_watermark_5 rfl (lv_at hl 1 rfl) ?_
  refine lv_aload_n hx hb dX12_watermark_6 rfl (lv_at hl 0 rfl) ?_
  refine va_get (D := (dC, dI)) (ci := 13) (v := .long w) (C := RX12) (T := TX12) (N := 115) hx hb hts (fun w h => List.mem_cons_of_mem _ (uG_X12 w h)) hown hK hP 0 rfl rfl 10 (by decide) (hts _ (List.mem_cons_of_mem _ kw_1701)) (fun _ h9 => h9) rfl dX12_watermark_7 ?_
  refine W.lcmp hx hb dX12_watermark_10 ?_
  refine lv_if_le (tgt := 24) hx hb dX12_watermark_11 (by decide) (fun c_1 => ?_) (fun c_1 => ?_)
  · skip
    have c_1 : x ≤ w := (lg_cmp_le x w).mp c_1
    refine lv_aload_n hx hb dX12_watermark_24 rfl (lv_at hl 0 rfl) ?_
    refine va_get (D := (dC, dI)) (ci := 13) (v := .int 0) (C := RX12) (T := TX12) (N := 115) hx hb hts (fun w h => List.mem_cons_of_mem _ (uG_X12 w h)) hown hK hP 0 rfl rfl 110 (by decide) (hts _ (List.mem_cons_of_mem _ kw_1801)) (fun _ h9 => h9) rfl dX12_watermark_25 ?_
    have hP9 := hP.sub (ws' := [(h0, .inr (13, moF a (upd f 110 0) w))]) [0] rfl
    have hD9 := hD.sub (ws' := [(h0, .inr (13, moF a (upd f 110 0) w))]) [0] (by decide) rfl
    have hK9 := hK.sub (tys' := [(cB, .byte), (cI, .int), (cJ, .long), (cZ, .boolean)]) [0, 1, 2, 3] rfl
    exact W.iret (v := 0) hx hb hr (fun t_ ht hW => ⟨⟨0, w, rfl, ⟨rfl, (if_pos c_1).symm⟩, by rw [ht]; exact hP9, va_K.moved hW.alike hK9, hD9⟩, hS.F ht⟩) hS.2.2 dX12_watermark_28
  · skip
    have c_1 : ¬ (x ≤ w) := fun h => c_1 ((lg_cmp_le x w).mpr h)
    refine lv_aload_n hx hb dX12_watermark_14 rfl (lv_at hl 0 rfl) ?_
    refine lv_lload_n hx hb dX12_watermark_15 rfl (lv_at hl 1 rfl) ?_
    refine va_put (D := (dC, dI)) (ci := 13) (v := .long x) (ty := .long) (C := RX12) (T := TX12) (N := 115) hx hb hts (fun w h => List.mem_cons_of_mem _ (uG_X12 w h)) tyX12 tyX12_ok nmX12 hown hK hP hD hS 0 rfl rfl 10 (by decide) (hts _ (List.mem_cons_of_mem _ kw_1701)) (fun _ h9 => h9) rfl (by decide +kernel) rfl rfl (Nat.le_of_ble_eq_true rfl) dX12_watermark_16 (fun H locs hP hD hS => ?_)
    have hP : va_P (dC, dI) vwCl [(h0, .inr (13, moF a (upd f 110 0) x))] H := hP
    have hD : va_D A [(h0, .inr (13, moF a (upd f 110 0) x))] := hD
    refine lv_aload_n hx hb dX12_watermark_19 rfl (lv_at hl 0 rfl) ?_
    refine lv_iconst (v := 1) hx hb dX12_watermark_20 (by decide) ?_
    have hPc := hP.sub (ws' := [(h0, .inr (13, moF a (upd f 110 0) x))]) [0] rfl
    have hDc := hD.sub (ws' := [(h0, .inr (13, moF a (upd f 110 0) x))]) [0] (by decide) rfl
    have hKc := hK.sub (tys' := [(cB, .byte), (cI, .int), (cJ, .long), (cZ, .boolean)]) [0, 1, 2, 3] rfl
    have hFc := va_free (wc := [(h0, .inr (13, moF a (upd f 110 0) x))]) hD hS hA [0] rfl
    refine va_callv (va_runV (As := [.int 1]) (rest := []) ⟨hx, hb, hml, hown, hts⟩ (t_X12_renew_0 l dC dI H.size cB cI cJ cZ h0 a (upd f 110 0) x 1 hhq) (cwV 1 hts (gd_all (in_V kw_2070 kw_2072 kw_99 kw_191 kc_X12_renew)) rfl rfl rfl (by decide +kernel) ⟨Nat.le_of_ble_eq_true rfl, Nat.le_of_ble_eq_true rfl⟩) ⟨fun a U g mk q => by obtain ⟨q0, q1, qP, qK, qD⟩ := q; exact ⟨q0, q1, qP, va_K.moved (u := U) (U := U.calling g mk a) (Vm.Alike.refl U.vm) qK, qD⟩, va_recv hKc hPc (ci := 13) (q0 := 0) rfl rfl, fun U hU hW => ⟨rfl, by rw [hU], by rw [hU]; exact hPc, va_K.moved hW.alike hKc, hDc.weaken (fun _ _ _ _ => trivial)⟩⟩ rfl rfl hl.1 rfl (lv_room (Nat.le_of_ble_eq_true rfl)) dX12_watermark_21 ⟨Nat.le_of_ble_eq_true rfl, Nat.le_of_ble_eq_true rfl⟩) hS (fun q _ h => hFc q h) hFc (fun u t_ H1 locs ht hvm hw hB hz1 hk1 hS => ?_)
    obtain ⟨hP1, hK1, hD1⟩ := hB
    rw [ht] at hP1
    have hK1 := va_K.moved hvm.symm hK1
    obtain ⟨hP, hD⟩ := va_join (wr := []) (w1 := [(h0, .inr (13, moF a (upd f 110 0) x))]) hP hD [0] [] rfl rfl (by decide) (by decide) hk1 hFc hP1 hD1
    have hK := (hK.sub (tys' := []) [] rfl).app hK1
    generalize H1 = H at hP hS ⊢
    have hP : va_P (dC, dI) vwCl [(h0, .inr (13, moF a (upd f 110 0) x))] H := hP
    have hD : va_D A [(h0, .inr (13, moF a (upd f 110 0) x))] := hD
    have hK : va_K (dC, dI) vwCl [(cB, .byte), (cI, .int), (cJ, .long), (cZ, .boolean)] s := hK
    refine lv_aload_n hx hb dX12_watermark_24 rfl (lv_at hl 0 rfl) ?_
    refine va_get (D := (dC, dI)) (ci := 13) (v := .int 0) (C := RX12) (T := TX12) (N := 115) hx hb hts (fun w h => List.mem_cons_of_mem _ (uG_X12 w h)) hown hK hP 0 rfl rfl 110 (by decide) (hts _ (List.mem_cons_of_mem _ kw_1801)) (fun _ h9 => h9) rfl dX12_watermark_25 ?_
    have hP9 := hP.sub (ws' := [(h0, .inr (13, moF a (upd f 110 0) x))]) [0] rfl
    have hD9 := hD.sub (ws' := [(h0, .inr (13, moF a (upd f 110 0) x))]) [0] (by decide) rfl
    have hK9 := hK.sub (tys' := [(cB, .byte), (cI, .int), (cJ, .long), (cZ, .boolean)]) [0, 1, 2, 3] rfl
    exact W.iret (v := 0) hx hb hr (fun t_ ht hW => ⟨⟨0, x, rfl, ⟨rfl, (if_neg c_1).symm⟩, by rw [ht]; exact hP9, va_K.moved hW.alike hK9, hD9⟩, hS.F ht⟩) hS.2.2 dX12_watermark_28
theorem dX12_type_0 : decode cX12_type 0 = .ok (.aload_n 0, 1) := by decide +kernel
theorem dX12_type_1 : decode cX12_type 1 = .ok (.getfield 584, 3) := by decide +kernel
theorem dX12_type_4 : decode cX12_type 4 = .ok (.ifCond .eq 34, 3) := by decide +kernel
theorem dX12_type_38 : decode cX12_type 38 = .ok (.iconst 0, 1) := by decide +kernel
theorem dX12_type_39 : decode cX12_type 39 = .ok (.ireturn, 1) := by decide +kernel
abbrev cs_t_X12_type_0 (cB cI cJ cZ : ClassId) (h0 : Nat) (a : Nat → Nat) (f : Nat → Int32) (w : Int64) (x : Int32) : va_W := [(h0, .inr (13, moF a f w))]
abbrev pc_t_X12_type_0 (dC : Nat → ClassId) (dI : Nat → Nat → Nat) (sz : Nat) (cB cI cJ cZ : ClassId) (h0 : Nat) (a : Nat → Nat) (f : Nat → Int32) (w : Int64) (x : Int32) : Array Value → State → Prop := va_Pc [.ref h0, .int x] (fun U => U.heap.size = sz ∧ va_P (dC, dI) vwCl [(h0, .inr (13, moF a f w))] U.heap ∧ va_K (dC, dI) vwCl [(cB, .byte), (cI, .int), (cJ, .long), (cZ, .boolean)] U ∧ va_D (fun _ => True) [(h0, .inr (13, moF a f w))])
abbrev qc_t_X12_type_0 (dC : Nat → ClassId) (dI : Nat → Nat → Nat) (cB cI cJ cZ : ClassId) (h0 : Nat) (a : Nat → Nat) (f : Nat → Int32) (w : Int64) (x : Int32) (A : Nat → Prop) : Array Value → State → Outcome → State → Prop := va_Qi (fun (r : Int32) (u : Unit) => match u with | _ => r = 0) (fun (u : Unit) t_ => match u with | _ => va_P (dC, dI) vwCl [(h0, .inr (13, moF a f w))] t_.heap ∧ va_K (dC, dI) vwCl [(cB, .byte), (cI, .int), (cJ, .long), (cZ, .boolean)] t_ ∧ va_D A [(h0, .inr (13, moF a f w))]) A
set_option maxHeartbeats 4000000 in
set_option maxRecDepth 100000 in
theorem t_X12_type_0 (l : Launch) (dC : Nat → ClassId) (dI : Nat → Nat → Nat) (sz : Nat) (cB cI cJ cZ : ClassId) (h0 : Nat) (a : Nat → Nat) (f : Nat → Int32) (w : Int64) (x : Int32) (hhq : f 81 = 0) : Met l yX12_type (wsOf yX12_type cX12_type 2 (some .int)) ({ frames := 0, cells := 0, slots := 0, locals := 0 }) (pc_t_X12_type_0 dC dI sz cB cI cJ cZ h0 a f w x) (qc_t_X12_type_0 dC dI cB cI cJ cZ h0 a f w x (va_A (cs_t_X12_type_0 cB cI cJ cZ h0 a f w x) sz)) 0 0 (va_A (cs_t_X12_type_0 cB cI cJ cZ h0 a f w x) sz) := by
  refine Met.ofW (cc := cX12_type) (maxL := 2) (ret := (some .int)) (by decide) rfl ?_
  intro p e s m args below meth c s₁ B hml hv
  obtain ⟨rfl, hsz, hP, hK, hD0⟩ := hv
  have hx := B.exec
  have hb := B.bytes
  have hr := B.returns
  have hts := atoms_spec (ws := (wsOf yX12_type cX12_type 2 (some .int))) B.pre
  have hown : s.vm.findClass RX12 = some m.cls := findClass_of_methodNamed B.named
  have hlocks := B.notSynchronized
  subst hsz
  have hD := hD0.self (sz := s.heap.size)
  generalize hAe : va_A (cs_t_X12_type_0 cB cI cJ cZ h0 a f w x) s.heap.size = A at hD ⊢
  have hA : ∀ q : Nat, s.heap.size ≤ q → A q := fun q h => by rw [← hAe]; exact Or.inr h
  have hS : va_S A s.heap s.heap [] := va_S.rf
  have hP : va_P (dC, dI) vwCl [(h0, .inr (13, moF a f w))] s.heap := hP
  have hl := lv_entry ([.ref h0, .int x]) (n := 2) (Nat.le_of_ble_eq_true rfl)
  rw [lg_entry_eq]
  generalize (lg_sl ([.ref h0, .int x]) ++ List.replicate (2 - (lg_sl ([.ref h0, .int x])).length) Slot.unset).toArray = ls at hl ⊢
  have hl : lv_has ls 2 [(0, .ref h0), (1, .int x)] := hl
  refine lv_aload_n hx hb dX12_type_0 rfl (lv_at hl 0 rfl) ?_
  refine va_get (D := (dC, dI)) (ci := 13) (v := .int (f 81)) (C := RX12) (T := TX12) (N := 115) hx hb hts (fun w h => List.mem_cons_of_mem _ (uG_X12 w h)) hown hK hP 0 rfl rfl 81 (by decide) (hts _ (List.mem_cons_of_mem _ kw_1772)) (fun _ h9 => h9) rfl dX12_type_1 ?_
  refine lv_if_eq (tgt := 38) hx hb dX12_type_4 (by decide) (fun c_1 => ?_) (fun c_1 => ?_)
  · skip
    refine lv_iconst (v := 0) hx hb dX12_type_38 (by decide) ?_
    have hP9 := hP.sub (ws' := [(h0, .inr (13, moF a f w))]) [0] rfl
    have hD9 := hD.sub (ws' := [(h0, .inr (13, moF a f w))]) [0] (by decide) rfl
    have hK9 := hK.sub (tys' := [(cB, .byte), (cI, .int), (cJ, .long), (cZ, .boolean)]) [0, 1, 2, 3] rfl
    exact W.iret (v := 0) hx hb hr (fun t_ ht hW => ⟨⟨0, (), rfl, rfl, by rw [ht]; exact hP9, va_K.moved hW.alike hK9, hD9⟩, hS.F ht⟩) hS.2.2 dX12_type_39
  · skip
    exact absurd hhq c_1
theorem dX12_told_0 : decode cX12_told 0 = .ok (.iload_n 1, 1) := by decide +kernel
theorem dX12_told_1 : decode cX12_told 1 = .ok (.ifCond .ne 8, 3) := by decide +kernel
theorem dX12_told_4 : decode cX12_told 4 = .ok (.aload_n 0, 1) := by decide +kernel
theorem dX12_told_5 : decode cX12_told 5 = .ok (.getfield 261, 3) := by decide +kernel
theorem dX12_told_8 : decode cX12_told 8 = .ok (.ireturn, 1) := by decide +kernel
theorem dX12_told_9 : decode cX12_told 9 = .ok (.iconst 0, 1) := by decide +kernel
theorem dX12_told_10 : decode cX12_told 10 = .ok (.istore_n 2, 1) := by decide +kernel
theorem dX12_told_11 : decode cX12_told 11 = .ok (.iload_n 1, 1) := by decide +kernel
theorem dX12_told_12 : decode cX12_told 12 = .ok (.iconst 1, 1) := by decide +kernel
theorem dX12_told_13 : decode cX12_told 13 = .ok (.if_icmp .ne 36, 3) := by decide +kernel
theorem dX12_told_16 : decode cX12_told 16 = .ok (.iconst 0, 1) := by decide +kernel
theorem dX12_told_17 : decode cX12_told 17 = .ok (.istore_n 3, 1) := by decide +kernel
theorem dX12_told_18 : decode cX12_told 18 = .ok (.iload_n 3, 1) := by decide +kernel
theorem dX12_told_19 : decode cX12_told 19 = .ok (.bipush 48, 2) := by decide +kernel
theorem dX12_told_21 : decode cX12_told 21 = .ok (.if_icmp .ge 26, 3) := by decide +kernel
theorem dX12_told_24 : decode cX12_told 24 = .ok (.iload_n 2, 1) := by decide +kernel
theorem dX12_told_25 : decode cX12_told 25 = .ok (.aload_n 0, 1) := by decide +kernel
theorem dX12_told_26 : decode cX12_told 26 = .ok (.getfield 20, 3) := by decide +kernel
theorem dX12_told_29 : decode cX12_told 29 = .ok (.iload_n 3, 1) := by decide +kernel
theorem dX12_told_30 : decode cX12_told 30 = .ok (.baload, 1) := by decide +kernel
theorem dX12_told_31 : decode cX12_told 31 = .ok (.ifCond .eq 7, 3) := by decide +kernel
theorem dX12_told_34 : decode cX12_told 34 = .ok (.iconst 1, 1) := by decide +kernel
theorem dX12_told_35 : decode cX12_told 35 = .ok (.goto 4, 3) := by decide +kernel
theorem dX12_told_38 : decode cX12_told 38 = .ok (.iconst 0, 1) := by decide +kernel
theorem dX12_told_39 : decode cX12_told 39 = .ok (.iadd, 1) := by decide +kernel
theorem dX12_told_40 : decode cX12_told 40 = .ok (.istore_n 2, 1) := by decide +kernel
theorem dX12_told_41 : decode cX12_told 41 = .ok (.iinc 3 1, 3) := by decide +kernel
theorem dX12_told_44 : decode cX12_told 44 = .ok (.goto (-26), 3) := by decide +kernel
theorem dX12_told_47 : decode cX12_told 47 = .ok (.iload_n 2, 1) := by decide +kernel
theorem dX12_told_48 : decode cX12_told 48 = .ok (.ireturn, 1) := by decide +kernel
theorem dX12_told_49 : decode cX12_told 49 = .ok (.iload_n 1, 1) := by decide +kernel
theorem dX12_told_50 : decode cX12_told 50 = .ok (.iconst 2, 1) := by decide +kernel
theorem dX12_told_51 : decode cX12_told 51 = .ok (.if_icmp .ne 113, 3) := by decide +kernel
theorem dX12_told_54 : decode cX12_told 54 = .ok (.iconst 0, 1) := by decide +kernel
theorem dX12_told_55 : decode cX12_told 55 = .ok (.istore_n 3, 1) := by decide +kernel
theorem dX12_told_56 : decode cX12_told 56 = .ok (.aload_n 0, 1) := by decide +kernel
theorem dX12_told_57 : decode cX12_told 57 = .ok (.getfield 584, 3) := by decide +kernel
theorem dX12_told_60 : decode cX12_told 60 = .ok (.ifCond .eq 102, 3) := by decide +kernel
theorem dX12_told_162 : decode cX12_told 162 = .ok (.iload_n 2, 1) := by decide +kernel
theorem dX12_told_163 : decode cX12_told 163 = .ok (.ireturn, 1) := by decide +kernel
theorem dX12_told_164 : decode cX12_told 164 = .ok (.iload_n 1, 1) := by decide +kernel
theorem dX12_told_165 : decode cX12_told 165 = .ok (.iconst 3, 1) := by decide +kernel
theorem dX12_told_166 : decode cX12_told 166 = .ok (.if_icmp .ne 21, 3) := by decide +kernel
theorem dX12_told_169 : decode cX12_told 169 = .ok (.aload_n 0, 1) := by decide +kernel
theorem dX12_told_170 : decode cX12_told 170 = .ok (.getfield 584, 3) := by decide +kernel
theorem dX12_told_173 : decode cX12_told 173 = .ok (.ifCond .eq 10, 3) := by decide +kernel
theorem dX12_told_183 : decode cX12_told 183 = .ok (.iconst 0, 1) := by decide +kernel
theorem dX12_told_184 : decode cX12_told 184 = .ok (.goto 47, 3) := by decide +kernel
theorem dX12_told_187 : decode cX12_told 187 = .ok (.iload_n 1, 1) := by decide +kernel
theorem dX12_told_188 : decode cX12_told 188 = .ok (.iconst 4, 1) := by decide +kernel
theorem dX12_told_189 : decode cX12_told 189 = .ok (.if_icmp .ne 21, 3) := by decide +kernel
theorem dX12_told_192 : decode cX12_told 192 = .ok (.aload_n 0, 1) := by decide +kernel
theorem dX12_told_193 : decode cX12_told 193 = .ok (.getfield 584, 3) := by decide +kernel
theorem dX12_told_196 : decode cX12_told 196 = .ok (.ifCond .eq 10, 3) := by decide +kernel
theorem dX12_told_206 : decode cX12_told 206 = .ok (.iconst 0, 1) := by decide +kernel
theorem dX12_told_207 : decode cX12_told 207 = .ok (.goto 24, 3) := by decide +kernel
theorem dX12_told_210 : decode cX12_told 210 = .ok (.iload_n 1, 1) := by decide +kernel
theorem dX12_told_211 : decode cX12_told 211 = .ok (.iconst 5, 1) := by decide +kernel
theorem dX12_told_212 : decode cX12_told 212 = .ok (.if_icmp .ne 18, 3) := by decide +kernel
theorem dX12_told_215 : decode cX12_told 215 = .ok (.aload_n 0, 1) := by decide +kernel
theorem dX12_told_216 : decode cX12_told 216 = .ok (.getfield 584, 3) := by decide +kernel
theorem dX12_told_219 : decode cX12_told 219 = .ok (.ifCond .eq 7, 3) := by decide +kernel
theorem dX12_told_226 : decode cX12_told 226 = .ok (.iconst 0, 1) := by decide +kernel
theorem dX12_told_227 : decode cX12_told 227 = .ok (.goto 4, 3) := by decide +kernel
theorem dX12_told_230 : decode cX12_told 230 = .ok (.iconst (-1), 1) := by decide +kernel
theorem dX12_told_231 : decode cX12_told 231 = .ok (.ireturn, 1) := by decide +kernel
abbrev cs_t_X12_told_0 (cB cI cJ cZ : ClassId) (h0 : Nat) (a : Nat → Nat) (f : Nat → Int32) (w : Int64) : va_W := [(h0, .inr (13, moF a f w))]
abbrev pc_t_X12_told_0 (dC : Nat → ClassId) (dI : Nat → Nat → Nat) (sz : Nat) (cB cI cJ cZ : ClassId) (h0 : Nat) (a : Nat → Nat) (f : Nat → Int32) (w : Int64) : Array Value → State → Prop := va_Pc [.ref h0, .int 0] (fun U => U.heap.size = sz ∧ va_P (dC, dI) vwCl [(h0, .inr (13, moF a f w))] U.heap ∧ va_K (dC, dI) vwCl [(cB, .byte), (cI, .int), (cJ, .long), (cZ, .boolean)] U ∧ va_D (fun _ => True) [(h0, .inr (13, moF a f w))])
abbrev qc_t_X12_told_0 (dC : Nat → ClassId) (dI : Nat → Nat → Nat) (cB cI cJ cZ : ClassId) (h0 : Nat) (a : Nat → Nat) (f : Nat → Int32) (w : Int64) (A : Nat → Prop) : Array Value → State → Outcome → State → Prop := va_Qi (fun (r : Int32) (u : Unit) => match u with | _ => r = f 4) (fun (u : Unit) t_ => match u with | _ => va_P (dC, dI) vwCl [(h0, .inr (13, moF a f w))] t_.heap ∧ va_K (dC, dI) vwCl [(cB, .byte), (cI, .int), (cJ, .long), (cZ, .boolean)] t_ ∧ va_D A [(h0, .inr (13, moF a f w))]) A
set_option maxHeartbeats 4000000 in
set_option maxRecDepth 100000 in
theorem t_X12_told_0 (l : Launch) (dC : Nat → ClassId) (dI : Nat → Nat → Nat) (sz : Nat) (cB cI cJ cZ : ClassId) (h0 : Nat) (a : Nat → Nat) (f : Nat → Int32) (w : Int64) (hhq : f 81 = 0) : Met l yX12_told (wsOf yX12_told cX12_told 7 (some .int)) ({ frames := 0, cells := 0, slots := 0, locals := 0 }) (pc_t_X12_told_0 dC dI sz cB cI cJ cZ h0 a f w) (qc_t_X12_told_0 dC dI cB cI cJ cZ h0 a f w (va_A (cs_t_X12_told_0 cB cI cJ cZ h0 a f w) sz)) 0 0 (va_A (cs_t_X12_told_0 cB cI cJ cZ h0 a f w) sz) := by
  refine Met.ofW (cc := cX12_told) (maxL := 7) (ret := (some .int)) (by decide) rfl ?_
  intro p e s m args below meth c s₁ B hml hv
  obtain ⟨rfl, hsz, hP, hK, hD0⟩ := hv
  have hx := B.exec
  have hb := B.bytes
  have hr := B.returns
  have hts := atoms_spec (ws := (wsOf yX12_told cX12_told 7 (some .int))) B.pre
  have hown : s.vm.findClass RX12 = some m.cls := findClass_of_methodNamed B.named
  have hlocks := B.notSynchronized
  subst hsz
  have hD := hD0.self (sz := s.heap.size)
  generalize hAe : va_A (cs_t_X12_told_0 cB cI cJ cZ h0 a f w) s.heap.size = A at hD ⊢
  have hA : ∀ q : Nat, s.heap.size ≤ q → A q := fun q h => by rw [← hAe]; exact Or.inr h
  have hS : va_S A s.heap s.heap [] := va_S.rf
  have hP : va_P (dC, dI) vwCl [(h0, .inr (13, moF a f w))] s.heap := hP
  have hl := lv_entry ([.ref h0, .int 0]) (n := 7) (Nat.le_of_ble_eq_true rfl)
  rw [lg_entry_eq]
  generalize (lg_sl ([.ref h0, .int 0]) ++ List.replicate (7 - (lg_sl ([.ref h0, .int 0])).length) Slot.unset).toArray = ls at hl ⊢
  have hl : lv_has ls 7 [(0, .ref h0), (1, .int 0)] := hl
  refine lv_iload_n hx hb dX12_told_0 rfl (lv_at hl 1 rfl) ?_
  refine lv_if_ne (tgt := 9) hx hb dX12_told_1 (by decide) (fun c_1 => ?_) (fun c_1 => ?_)
  · skip
    exact absurd c_1 (by decide)
  · skip
    refine lv_aload_n hx hb dX12_told_4 rfl (lv_at hl 0 rfl) ?_
    refine va_get (D := (dC, dI)) (ci := 13) (v := .int (f 4)) (C := RX12) (T := TX12) (N := 115) hx hb hts (fun w h => List.mem_cons_of_mem _ (uG_X12 w h)) hown hK hP 0 rfl rfl 4 (by decide) (hts _ (List.mem_cons_of_mem _ kw_1695)) (fun _ h9 => h9) rfl dX12_told_5 ?_
    have hP9 := hP.sub (ws' := [(h0, .inr (13, moF a f w))]) [0] rfl
    have hD9 := hD.sub (ws' := [(h0, .inr (13, moF a f w))]) [0] (by decide) rfl
    have hK9 := hK.sub (tys' := [(cB, .byte), (cI, .int), (cJ, .long), (cZ, .boolean)]) [0, 1, 2, 3] rfl
    exact W.iret (v := (f 4)) hx hb hr (fun t_ ht hW => ⟨⟨(f 4), (), rfl, rfl, by rw [ht]; exact hP9, va_K.moved hW.alike hK9, hD9⟩, hS.F ht⟩) hS.2.2 dX12_told_8
abbrev cs_t_X12_told_2 (cB cI cJ cZ : ClassId) (h0 : Nat) (a : Nat → Nat) (f : Nat → Int32) (w : Int64) : va_W := [(h0, .inr (13, moF a f w))]
abbrev pc_t_X12_told_2 (dC : Nat → ClassId) (dI : Nat → Nat → Nat) (sz : Nat) (cB cI cJ cZ : ClassId) (h0 : Nat) (a : Nat → Nat) (f : Nat → Int32) (w : Int64) : Array Value → State → Prop := va_Pc [.ref h0, .int 2] (fun U => U.heap.size = sz ∧ va_P (dC, dI) vwCl [(h0, .inr (13, moF a f w))] U.heap ∧ va_K (dC, dI) vwCl [(cB, .byte), (cI, .int), (cJ, .long), (cZ, .boolean)] U ∧ va_D (fun _ => True) [(h0, .inr (13, moF a f w))])
abbrev qc_t_X12_told_2 (dC : Nat → ClassId) (dI : Nat → Nat → Nat) (cB cI cJ cZ : ClassId) (h0 : Nat) (a : Nat → Nat) (f : Nat → Int32) (w : Int64) (A : Nat → Prop) : Array Value → State → Outcome → State → Prop := va_Qi (fun (r : Int32) (u : Unit) => match u with | _ => r = 0) (fun (u : Unit) t_ => match u with | _ => va_P (dC, dI) vwCl [(h0, .inr (13, moF a f w))] t_.heap ∧ va_K (dC, dI) vwCl [(cB, .byte), (cI, .int), (cJ, .long), (cZ, .boolean)] t_ ∧ va_D A [(h0, .inr (13, moF a f w))]) A
set_option maxHeartbeats 4000000 in
set_option maxRecDepth 100000 in
theorem t_X12_told_2 (l : Launch) (dC : Nat → ClassId) (dI : Nat → Nat → Nat) (sz : Nat) (cB cI cJ cZ : ClassId) (h0 : Nat) (a : Nat → Nat) (f : Nat → Int32) (w : Int64) (hhq : f 81 = 0) : Met l yX12_told (wsOf yX12_told cX12_told 7 (some .int)) ({ frames := 0, cells := 0, slots := 0, locals := 0 }) (pc_t_X12_told_2 dC dI sz cB cI cJ cZ h0 a f w) (qc_t_X12_told_2 dC dI cB cI cJ cZ h0 a f w (va_A (cs_t_X12_told_2 cB cI cJ cZ h0 a f w) sz)) 0 0 (va_A (cs_t_X12_told_2 cB cI cJ cZ h0 a f w) sz) := by
  refine Met.ofW (cc := cX12_told) (maxL := 7) (ret := (some .int)) (by decide) rfl ?_
  intro p e s m args below meth c s₁ B hml hv
  obtain ⟨rfl, hsz, hP, hK, hD0⟩ := hv
  have hx := B.exec
  have hb := B.bytes
  have hr := B.returns
  have hts := atoms_spec (ws := (wsOf yX12_told cX12_told 7 (some .int))) B.pre
  have hown : s.vm.findClass RX12 = some m.cls := findClass_of_methodNamed B.named
  have hlocks := B.notSynchronized
  subst hsz
  have hD := hD0.self (sz := s.heap.size)
  generalize hAe : va_A (cs_t_X12_told_2 cB cI cJ cZ h0 a f w) s.heap.size = A at hD ⊢
  have hA : ∀ q : Nat, s.heap.size ≤ q → A q := fun q h => by rw [← hAe]; exact Or.inr h
  have hS : va_S A s.heap s.heap [] := va_S.rf
  have hP : va_P (dC, dI) vwCl [(h0, .inr (13, moF a f w))] s.heap := hP
  have hl := lv_entry ([.ref h0, .int 2]) (n := 7) (Nat.le_of_ble_eq_true rfl)
  rw [lg_entry_eq]
  generalize (lg_sl ([.ref h0, .int 2]) ++ List.replicate (7 - (lg_sl ([.ref h0, .int 2])).length) Slot.unset).toArray = ls at hl ⊢
  have hl : lv_has ls 7 [(0, .ref h0), (1, .int 2)] := hl
  refine lv_iload_n hx hb dX12_told_0 rfl (lv_at hl 1 rfl) ?_
  refine lv_if_ne (tgt := 9) hx hb dX12_told_1 (by decide) (fun c_1 => ?_) (fun c_1 => ?_)
  · skip
    refine lv_iconst (v := 0) hx hb dX12_told_9 (by decide) ?_
    refine lv_istore_n (lv' := [(2, .int 0), (0, .ref h0), (1, .int 2)]) hx hb dX12_told_10 rfl hl (by decide) rfl (fun ls hl => ?_)
    refine lv_iload_n hx hb dX12_told_11 rfl (lv_at hl 2 rfl) ?_
    refine lv_iconst (v := 1) hx hb dX12_told_12 (by decide) ?_
    refine lv_icmp_ne (tgt := 49) hx hb dX12_told_13 (by decide) (fun c_2 => ?_) (fun c_2 => ?_)
    · skip
      refine lv_iload_n hx hb dX12_told_49 rfl (lv_at hl 2 rfl) ?_
      refine lv_iconst (v := 2) hx hb dX12_told_50 (by decide) ?_
      refine lv_icmp_ne (tgt := 164) hx hb dX12_told_51 (by decide) (fun c_3 => ?_) (fun c_3 => ?_)
      · skip
        exact absurd c_3 (by decide)
      · skip
        refine lv_iconst (v := 0) hx hb dX12_told_54 (by decide) ?_
        refine lv_istore_n (lv' := [(3, .int 0), (2, .int 0), (0, .ref h0), (1, .int 2)]) hx hb dX12_told_55 rfl hl (by decide) rfl (fun ls hl => ?_)
        refine lv_aload_n hx hb dX12_told_56 rfl (lv_at hl 2 rfl) ?_
        refine va_get (D := (dC, dI)) (ci := 13) (v := .int (f 81)) (C := RX12) (T := TX12) (N := 115) hx hb hts (fun w h => List.mem_cons_of_mem _ (uG_X12 w h)) hown hK hP 0 rfl rfl 81 (by decide) (hts _ (List.mem_cons_of_mem _ kw_1772)) (fun _ h9 => h9) rfl dX12_told_57 ?_
        refine lv_if_eq (tgt := 162) hx hb dX12_told_60 (by decide) (fun c_4 => ?_) (fun c_4 => ?_)
        · skip
          refine lv_iload_n hx hb dX12_told_162 rfl (lv_at hl 1 rfl) ?_
          have hP9 := hP.sub (ws' := [(h0, .inr (13, moF a f w))]) [0] rfl
          have hD9 := hD.sub (ws' := [(h0, .inr (13, moF a f w))]) [0] (by decide) rfl
          have hK9 := hK.sub (tys' := [(cB, .byte), (cI, .int), (cJ, .long), (cZ, .boolean)]) [0, 1, 2, 3] rfl
          exact W.iret (v := 0) hx hb hr (fun t_ ht hW => ⟨⟨0, (), rfl, rfl, by rw [ht]; exact hP9, va_K.moved hW.alike hK9, hD9⟩, hS.F ht⟩) hS.2.2 dX12_told_163
        · skip
          exact absurd hhq c_4
    · skip
      exact absurd c_2 (by decide)
  · skip
    exact absurd c_1 (by decide)
abbrev cs_t_X12_told_3 (cB cI cJ cZ : ClassId) (h0 : Nat) (a : Nat → Nat) (f : Nat → Int32) (w : Int64) : va_W := [(h0, .inr (13, moF a f w))]
abbrev pc_t_X12_told_3 (dC : Nat → ClassId) (dI : Nat → Nat → Nat) (sz : Nat) (cB cI cJ cZ : ClassId) (h0 : Nat) (a : Nat → Nat) (f : Nat → Int32) (w : Int64) : Array Value → State → Prop := va_Pc [.ref h0, .int 3] (fun U => U.heap.size = sz ∧ va_P (dC, dI) vwCl [(h0, .inr (13, moF a f w))] U.heap ∧ va_K (dC, dI) vwCl [(cB, .byte), (cI, .int), (cJ, .long), (cZ, .boolean)] U ∧ va_D (fun _ => True) [(h0, .inr (13, moF a f w))])
abbrev qc_t_X12_told_3 (dC : Nat → ClassId) (dI : Nat → Nat → Nat) (cB cI cJ cZ : ClassId) (h0 : Nat) (a : Nat → Nat) (f : Nat → Int32) (w : Int64) (A : Nat → Prop) : Array Value → State → Outcome → State → Prop := va_Qi (fun (r : Int32) (u : Unit) => match u with | _ => r = 0) (fun (u : Unit) t_ => match u with | _ => va_P (dC, dI) vwCl [(h0, .inr (13, moF a f w))] t_.heap ∧ va_K (dC, dI) vwCl [(cB, .byte), (cI, .int), (cJ, .long), (cZ, .boolean)] t_ ∧ va_D A [(h0, .inr (13, moF a f w))]) A
set_option maxHeartbeats 4000000 in
set_option maxRecDepth 100000 in
theorem t_X12_told_3 (l : Launch) (dC : Nat → ClassId) (dI : Nat → Nat → Nat) (sz : Nat) (cB cI cJ cZ : ClassId) (h0 : Nat) (a : Nat → Nat) (f : Nat → Int32) (w : Int64) (hhq : f 81 = 0) : Met l yX12_told (wsOf yX12_told cX12_told 7 (some .int)) ({ frames := 0, cells := 0, slots := 0, locals := 0 }) (pc_t_X12_told_3 dC dI sz cB cI cJ cZ h0 a f w) (qc_t_X12_told_3 dC dI cB cI cJ cZ h0 a f w (va_A (cs_t_X12_told_3 cB cI cJ cZ h0 a f w) sz)) 0 0 (va_A (cs_t_X12_told_3 cB cI cJ cZ h0 a f w) sz) := by
  refine Met.ofW (cc := cX12_told) (maxL := 7) (ret := (some .int)) (by decide) rfl ?_
  intro p e s m args below meth c s₁ B hml hv
  obtain ⟨rfl, hsz, hP, hK, hD0⟩ := hv
  have hx := B.exec
  have hb := B.bytes
  have hr := B.returns
  have hts := atoms_spec (ws := (wsOf yX12_told cX12_told 7 (some .int))) B.pre
  have hown : s.vm.findClass RX12 = some m.cls := findClass_of_methodNamed B.named
  have hlocks := B.notSynchronized
  subst hsz
  have hD := hD0.self (sz := s.heap.size)
  generalize hAe : va_A (cs_t_X12_told_3 cB cI cJ cZ h0 a f w) s.heap.size = A at hD ⊢
  have hA : ∀ q : Nat, s.heap.size ≤ q → A q := fun q h => by rw [← hAe]; exact Or.inr h
  have hS : va_S A s.heap s.heap [] := va_S.rf
  have hP : va_P (dC, dI) vwCl [(h0, .inr (13, moF a f w))] s.heap := hP
  have hl := lv_entry ([.ref h0, .int 3]) (n := 7) (Nat.le_of_ble_eq_true rfl)
  rw [lg_entry_eq]
  generalize (lg_sl ([.ref h0, .int 3]) ++ List.replicate (7 - (lg_sl ([.ref h0, .int 3])).length) Slot.unset).toArray = ls at hl ⊢
  have hl : lv_has ls 7 [(0, .ref h0), (1, .int 3)] := hl
  refine lv_iload_n hx hb dX12_told_0 rfl (lv_at hl 1 rfl) ?_
  refine lv_if_ne (tgt := 9) hx hb dX12_told_1 (by decide) (fun c_1 => ?_) (fun c_1 => ?_)
  · skip
    refine lv_iconst (v := 0) hx hb dX12_told_9 (by decide) ?_
    refine lv_istore_n (lv' := [(2, .int 0), (0, .ref h0), (1, .int 3)]) hx hb dX12_told_10 rfl hl (by decide) rfl (fun ls hl => ?_)
    refine lv_iload_n hx hb dX12_told_11 rfl (lv_at hl 2 rfl) ?_
    refine lv_iconst (v := 1) hx hb dX12_told_12 (by decide) ?_
    refine lv_icmp_ne (tgt := 49) hx hb dX12_told_13 (by decide) (fun c_2 => ?_) (fun c_2 => ?_)
    · skip
      refine lv_iload_n hx hb dX12_told_49 rfl (lv_at hl 2 rfl) ?_
      refine lv_iconst (v := 2) hx hb dX12_told_50 (by decide) ?_
      refine lv_icmp_ne (tgt := 164) hx hb dX12_told_51 (by decide) (fun c_3 => ?_) (fun c_3 => ?_)
      · skip
        refine lv_iload_n hx hb dX12_told_164 rfl (lv_at hl 2 rfl) ?_
        refine lv_iconst (v := 3) hx hb dX12_told_165 (by decide) ?_
        refine lv_icmp_ne (tgt := 187) hx hb dX12_told_166 (by decide) (fun c_4 => ?_) (fun c_4 => ?_)
        · skip
          exact absurd c_4 (by decide)
        · skip
          refine lv_aload_n hx hb dX12_told_169 rfl (lv_at hl 1 rfl) ?_
          refine va_get (D := (dC, dI)) (ci := 13) (v := .int (f 81)) (C := RX12) (T := TX12) (N := 115) hx hb hts (fun w h => List.mem_cons_of_mem _ (uG_X12 w h)) hown hK hP 0 rfl rfl 81 (by decide) (hts _ (List.mem_cons_of_mem _ kw_1772)) (fun _ h9 => h9) rfl dX12_told_170 ?_
          refine lv_if_eq (tgt := 183) hx hb dX12_told_173 (by decide) (fun c_5 => ?_) (fun c_5 => ?_)
          · skip
            refine lv_iconst (v := 0) hx hb dX12_told_183 (by decide) ?_
            refine lv_goto (tgt := 231) hx hb dX12_told_184 (by decide) ?_
            have hP9 := hP.sub (ws' := [(h0, .inr (13, moF a f w))]) [0] rfl
            have hD9 := hD.sub (ws' := [(h0, .inr (13, moF a f w))]) [0] (by decide) rfl
            have hK9 := hK.sub (tys' := [(cB, .byte), (cI, .int), (cJ, .long), (cZ, .boolean)]) [0, 1, 2, 3] rfl
            exact W.iret (v := 0) hx hb hr (fun t_ ht hW => ⟨⟨0, (), rfl, rfl, by rw [ht]; exact hP9, va_K.moved hW.alike hK9, hD9⟩, hS.F ht⟩) hS.2.2 dX12_told_231
          · skip
            exact absurd hhq c_5
      · skip
        exact absurd c_3 (by decide)
    · skip
      exact absurd c_2 (by decide)
  · skip
    exact absurd c_1 (by decide)
abbrev cs_t_X12_told_4 (cB cI cJ cZ : ClassId) (h0 : Nat) (a : Nat → Nat) (f : Nat → Int32) (w : Int64) : va_W := [(h0, .inr (13, moF a f w))]
abbrev pc_t_X12_told_4 (dC : Nat → ClassId) (dI : Nat → Nat → Nat) (sz : Nat) (cB cI cJ cZ : ClassId) (h0 : Nat) (a : Nat → Nat) (f : Nat → Int32) (w : Int64) : Array Value → State → Prop := va_Pc [.ref h0, .int 4] (fun U => U.heap.size = sz ∧ va_P (dC, dI) vwCl [(h0, .inr (13, moF a f w))] U.heap ∧ va_K (dC, dI) vwCl [(cB, .byte), (cI, .int), (cJ, .long), (cZ, .boolean)] U ∧ va_D (fun _ => True) [(h0, .inr (13, moF a f w))])
abbrev qc_t_X12_told_4 (dC : Nat → ClassId) (dI : Nat → Nat → Nat) (cB cI cJ cZ : ClassId) (h0 : Nat) (a : Nat → Nat) (f : Nat → Int32) (w : Int64) (A : Nat → Prop) : Array Value → State → Outcome → State → Prop := va_Qi (fun (r : Int32) (u : Unit) => match u with | _ => r = 0) (fun (u : Unit) t_ => match u with | _ => va_P (dC, dI) vwCl [(h0, .inr (13, moF a f w))] t_.heap ∧ va_K (dC, dI) vwCl [(cB, .byte), (cI, .int), (cJ, .long), (cZ, .boolean)] t_ ∧ va_D A [(h0, .inr (13, moF a f w))]) A
set_option maxHeartbeats 4000000 in
set_option maxRecDepth 100000 in
theorem t_X12_told_4 (l : Launch) (dC : Nat → ClassId) (dI : Nat → Nat → Nat) (sz : Nat) (cB cI cJ cZ : ClassId) (h0 : Nat) (a : Nat → Nat) (f : Nat → Int32) (w : Int64) (hhq : f 81 = 0) : Met l yX12_told (wsOf yX12_told cX12_told 7 (some .int)) ({ frames := 0, cells := 0, slots := 0, locals := 0 }) (pc_t_X12_told_4 dC dI sz cB cI cJ cZ h0 a f w) (qc_t_X12_told_4 dC dI cB cI cJ cZ h0 a f w (va_A (cs_t_X12_told_4 cB cI cJ cZ h0 a f w) sz)) 0 0 (va_A (cs_t_X12_told_4 cB cI cJ cZ h0 a f w) sz) := by
  refine Met.ofW (cc := cX12_told) (maxL := 7) (ret := (some .int)) (by decide) rfl ?_
  intro p e s m args below meth c s₁ B hml hv
  obtain ⟨rfl, hsz, hP, hK, hD0⟩ := hv
  have hx := B.exec
  have hb := B.bytes
  have hr := B.returns
  have hts := atoms_spec (ws := (wsOf yX12_told cX12_told 7 (some .int))) B.pre
  have hown : s.vm.findClass RX12 = some m.cls := findClass_of_methodNamed B.named
  have hlocks := B.notSynchronized
  subst hsz
  have hD := hD0.self (sz := s.heap.size)
  generalize hAe : va_A (cs_t_X12_told_4 cB cI cJ cZ h0 a f w) s.heap.size = A at hD ⊢
  have hA : ∀ q : Nat, s.heap.size ≤ q → A q := fun q h => by rw [← hAe]; exact Or.inr h
  have hS : va_S A s.heap s.heap [] := va_S.rf
  have hP : va_P (dC, dI) vwCl [(h0, .inr (13, moF a f w))] s.heap := hP
  have hl := lv_entry ([.ref h0, .int 4]) (n := 7) (Nat.le_of_ble_eq_true rfl)
  rw [lg_entry_eq]
  generalize (lg_sl ([.ref h0, .int 4]) ++ List.replicate (7 - (lg_sl ([.ref h0, .int 4])).length) Slot.unset).toArray = ls at hl ⊢
  have hl : lv_has ls 7 [(0, .ref h0), (1, .int 4)] := hl
  refine lv_iload_n hx hb dX12_told_0 rfl (lv_at hl 1 rfl) ?_
  refine lv_if_ne (tgt := 9) hx hb dX12_told_1 (by decide) (fun c_1 => ?_) (fun c_1 => ?_)
  · skip
    refine lv_iconst (v := 0) hx hb dX12_told_9 (by decide) ?_
    refine lv_istore_n (lv' := [(2, .int 0), (0, .ref h0), (1, .int 4)]) hx hb dX12_told_10 rfl hl (by decide) rfl (fun ls hl => ?_)
    refine lv_iload_n hx hb dX12_told_11 rfl (lv_at hl 2 rfl) ?_
    refine lv_iconst (v := 1) hx hb dX12_told_12 (by decide) ?_
    refine lv_icmp_ne (tgt := 49) hx hb dX12_told_13 (by decide) (fun c_2 => ?_) (fun c_2 => ?_)
    · skip
      refine lv_iload_n hx hb dX12_told_49 rfl (lv_at hl 2 rfl) ?_
      refine lv_iconst (v := 2) hx hb dX12_told_50 (by decide) ?_
      refine lv_icmp_ne (tgt := 164) hx hb dX12_told_51 (by decide) (fun c_3 => ?_) (fun c_3 => ?_)
      · skip
        refine lv_iload_n hx hb dX12_told_164 rfl (lv_at hl 2 rfl) ?_
        refine lv_iconst (v := 3) hx hb dX12_told_165 (by decide) ?_
        refine lv_icmp_ne (tgt := 187) hx hb dX12_told_166 (by decide) (fun c_4 => ?_) (fun c_4 => ?_)
        · skip
          refine lv_iload_n hx hb dX12_told_187 rfl (lv_at hl 2 rfl) ?_
          refine lv_iconst (v := 4) hx hb dX12_told_188 (by decide) ?_
          refine lv_icmp_ne (tgt := 210) hx hb dX12_told_189 (by decide) (fun c_5 => ?_) (fun c_5 => ?_)
          · skip
            exact absurd c_5 (by decide)
          · skip
            refine lv_aload_n hx hb dX12_told_192 rfl (lv_at hl 1 rfl) ?_
            refine va_get (D := (dC, dI)) (ci := 13) (v := .int (f 81)) (C := RX12) (T := TX12) (N := 115) hx hb hts (fun w h => List.mem_cons_of_mem _ (uG_X12 w h)) hown hK hP 0 rfl rfl 81 (by decide) (hts _ (List.mem_cons_of_mem _ kw_1772)) (fun _ h9 => h9) rfl dX12_told_193 ?_
            refine lv_if_eq (tgt := 206) hx hb dX12_told_196 (by decide) (fun c_6 => ?_) (fun c_6 => ?_)
            · skip
              refine lv_iconst (v := 0) hx hb dX12_told_206 (by decide) ?_
              refine lv_goto (tgt := 231) hx hb dX12_told_207 (by decide) ?_
              have hP9 := hP.sub (ws' := [(h0, .inr (13, moF a f w))]) [0] rfl
              have hD9 := hD.sub (ws' := [(h0, .inr (13, moF a f w))]) [0] (by decide) rfl
              have hK9 := hK.sub (tys' := [(cB, .byte), (cI, .int), (cJ, .long), (cZ, .boolean)]) [0, 1, 2, 3] rfl
              exact W.iret (v := 0) hx hb hr (fun t_ ht hW => ⟨⟨0, (), rfl, rfl, by rw [ht]; exact hP9, va_K.moved hW.alike hK9, hD9⟩, hS.F ht⟩) hS.2.2 dX12_told_231
            · skip
              exact absurd hhq c_6
        · skip
          exact absurd c_4 (by decide)
      · skip
        exact absurd c_3 (by decide)
    · skip
      exact absurd c_2 (by decide)
  · skip
    exact absurd c_1 (by decide)
abbrev cs_t_X12_told_5 (cB cI cJ cZ : ClassId) (h0 : Nat) (a : Nat → Nat) (f : Nat → Int32) (w : Int64) : va_W := [(h0, .inr (13, moF a f w))]
abbrev pc_t_X12_told_5 (dC : Nat → ClassId) (dI : Nat → Nat → Nat) (sz : Nat) (cB cI cJ cZ : ClassId) (h0 : Nat) (a : Nat → Nat) (f : Nat → Int32) (w : Int64) : Array Value → State → Prop := va_Pc [.ref h0, .int 5] (fun U => U.heap.size = sz ∧ va_P (dC, dI) vwCl [(h0, .inr (13, moF a f w))] U.heap ∧ va_K (dC, dI) vwCl [(cB, .byte), (cI, .int), (cJ, .long), (cZ, .boolean)] U ∧ va_D (fun _ => True) [(h0, .inr (13, moF a f w))])
abbrev qc_t_X12_told_5 (dC : Nat → ClassId) (dI : Nat → Nat → Nat) (cB cI cJ cZ : ClassId) (h0 : Nat) (a : Nat → Nat) (f : Nat → Int32) (w : Int64) (A : Nat → Prop) : Array Value → State → Outcome → State → Prop := va_Qi (fun (r : Int32) (u : Unit) => match u with | _ => r = 0) (fun (u : Unit) t_ => match u with | _ => va_P (dC, dI) vwCl [(h0, .inr (13, moF a f w))] t_.heap ∧ va_K (dC, dI) vwCl [(cB, .byte), (cI, .int), (cJ, .long), (cZ, .boolean)] t_ ∧ va_D A [(h0, .inr (13, moF a f w))]) A
set_option maxHeartbeats 4000000 in
set_option maxRecDepth 100000 in
theorem t_X12_told_5 (l : Launch) (dC : Nat → ClassId) (dI : Nat → Nat → Nat) (sz : Nat) (cB cI cJ cZ : ClassId) (h0 : Nat) (a : Nat → Nat) (f : Nat → Int32) (w : Int64) (hhq : f 81 = 0) : Met l yX12_told (wsOf yX12_told cX12_told 7 (some .int)) ({ frames := 0, cells := 0, slots := 0, locals := 0 }) (pc_t_X12_told_5 dC dI sz cB cI cJ cZ h0 a f w) (qc_t_X12_told_5 dC dI cB cI cJ cZ h0 a f w (va_A (cs_t_X12_told_5 cB cI cJ cZ h0 a f w) sz)) 0 0 (va_A (cs_t_X12_told_5 cB cI cJ cZ h0 a f w) sz) := by
  refine Met.ofW (cc := cX12_told) (maxL := 7) (ret := (some .int)) (by decide) rfl ?_
  intro p e s m args below meth c s₁ B hml hv
  obtain ⟨rfl, hsz, hP, hK, hD0⟩ := hv
  have hx := B.exec
  have hb := B.bytes
  have hr := B.returns
  have hts := atoms_spec (ws := (wsOf yX12_told cX12_told 7 (some .int))) B.pre
  have hown : s.vm.findClass RX12 = some m.cls := findClass_of_methodNamed B.named
  have hlocks := B.notSynchronized
  subst hsz
  have hD := hD0.self (sz := s.heap.size)
  generalize hAe : va_A (cs_t_X12_told_5 cB cI cJ cZ h0 a f w) s.heap.size = A at hD ⊢
  have hA : ∀ q : Nat, s.heap.size ≤ q → A q := fun q h => by rw [← hAe]; exact Or.inr h
  have hS : va_S A s.heap s.heap [] := va_S.rf
  have hP : va_P (dC, dI) vwCl [(h0, .inr (13, moF a f w))] s.heap := hP
  have hl := lv_entry ([.ref h0, .int 5]) (n := 7) (Nat.le_of_ble_eq_true rfl)
  rw [lg_entry_eq]
  generalize (lg_sl ([.ref h0, .int 5]) ++ List.replicate (7 - (lg_sl ([.ref h0, .int 5])).length) Slot.unset).toArray = ls at hl ⊢
  have hl : lv_has ls 7 [(0, .ref h0), (1, .int 5)] := hl
  refine lv_iload_n hx hb dX12_told_0 rfl (lv_at hl 1 rfl) ?_
  refine lv_if_ne (tgt := 9) hx hb dX12_told_1 (by decide) (fun c_1 => ?_) (fun c_1 => ?_)
  · skip
    refine lv_iconst (v := 0) hx hb dX12_told_9 (by decide) ?_
    refine lv_istore_n (lv' := [(2, .int 0), (0, .ref h0), (1, .int 5)]) hx hb dX12_told_10 rfl hl (by decide) rfl (fun ls hl => ?_)
    refine lv_iload_n hx hb dX12_told_11 rfl (lv_at hl 2 rfl) ?_
    refine lv_iconst (v := 1) hx hb dX12_told_12 (by decide) ?_
    refine lv_icmp_ne (tgt := 49) hx hb dX12_told_13 (by decide) (fun c_2 => ?_) (fun c_2 => ?_)
    · skip
      refine lv_iload_n hx hb dX12_told_49 rfl (lv_at hl 2 rfl) ?_
      refine lv_iconst (v := 2) hx hb dX12_told_50 (by decide) ?_
      refine lv_icmp_ne (tgt := 164) hx hb dX12_told_51 (by decide) (fun c_3 => ?_) (fun c_3 => ?_)
      · skip
        refine lv_iload_n hx hb dX12_told_164 rfl (lv_at hl 2 rfl) ?_
        refine lv_iconst (v := 3) hx hb dX12_told_165 (by decide) ?_
        refine lv_icmp_ne (tgt := 187) hx hb dX12_told_166 (by decide) (fun c_4 => ?_) (fun c_4 => ?_)
        · skip
          refine lv_iload_n hx hb dX12_told_187 rfl (lv_at hl 2 rfl) ?_
          refine lv_iconst (v := 4) hx hb dX12_told_188 (by decide) ?_
          refine lv_icmp_ne (tgt := 210) hx hb dX12_told_189 (by decide) (fun c_5 => ?_) (fun c_5 => ?_)
          · skip
            refine lv_iload_n hx hb dX12_told_210 rfl (lv_at hl 2 rfl) ?_
            refine lv_iconst (v := 5) hx hb dX12_told_211 (by decide) ?_
            refine lv_icmp_ne (tgt := 230) hx hb dX12_told_212 (by decide) (fun c_6 => ?_) (fun c_6 => ?_)
            · skip
              exact absurd c_6 (by decide)
            · skip
              refine lv_aload_n hx hb dX12_told_215 rfl (lv_at hl 1 rfl) ?_
              refine va_get (D := (dC, dI)) (ci := 13) (v := .int (f 81)) (C := RX12) (T := TX12) (N := 115) hx hb hts (fun w h => List.mem_cons_of_mem _ (uG_X12 w h)) hown hK hP 0 rfl rfl 81 (by decide) (hts _ (List.mem_cons_of_mem _ kw_1772)) (fun _ h9 => h9) rfl dX12_told_216 ?_
              refine lv_if_eq (tgt := 226) hx hb dX12_told_219 (by decide) (fun c_7 => ?_) (fun c_7 => ?_)
              · skip
                refine lv_iconst (v := 0) hx hb dX12_told_226 (by decide) ?_
                refine lv_goto (tgt := 231) hx hb dX12_told_227 (by decide) ?_
                have hP9 := hP.sub (ws' := [(h0, .inr (13, moF a f w))]) [0] rfl
                have hD9 := hD.sub (ws' := [(h0, .inr (13, moF a f w))]) [0] (by decide) rfl
                have hK9 := hK.sub (tys' := [(cB, .byte), (cI, .int), (cJ, .long), (cZ, .boolean)]) [0, 1, 2, 3] rfl
                exact W.iret (v := 0) hx hb hr (fun t_ ht hW => ⟨⟨0, (), rfl, rfl, by rw [ht]; exact hP9, va_K.moved hW.alike hK9, hD9⟩, hS.F ht⟩) hS.2.2 dX12_told_231
              · skip
                exact absurd hhq c_7
          · skip
            exact absurd c_5 (by decide)
        · skip
          exact absurd c_4 (by decide)
      · skip
        exact absurd c_3 (by decide)
    · skip
      exact absurd c_2 (by decide)
  · skip
    exact absurd c_1 (by decide)
abbrev cs_t_X12_told_o (cB cI cJ cZ : ClassId) (h0 : Nat) (a : Nat → Nat) (f : Nat → Int32) (w : Int64) (x : Int32) : va_W := [(h0, .inr (13, moF a f w))]
abbrev pc_t_X12_told_o (dC : Nat → ClassId) (dI : Nat → Nat → Nat) (sz : Nat) (cB cI cJ cZ : ClassId) (h0 : Nat) (a : Nat → Nat) (f : Nat → Int32) (w : Int64) (x : Int32) : Array Value → State → Prop := va_Pc [.ref h0, .int x] (fun U => U.heap.size = sz ∧ va_P (dC, dI) vwCl [(h0, .inr (13, moF a f w))] U.heap ∧ va_K (dC, dI) vwCl [(cB, .byte), (cI, .int), (cJ, .long), (cZ, .boolean)] U ∧ va_D (fun _ => True) [(h0, .inr (13, moF a f w))])
abbrev qc_t_X12_told_o (dC : Nat → ClassId) (dI : Nat → Nat → Nat) (cB cI cJ cZ : ClassId) (h0 : Nat) (a : Nat → Nat) (f : Nat → Int32) (w : Int64) (x : Int32) (A : Nat → Prop) : Array Value → State → Outcome → State → Prop := va_Qi (fun (r : Int32) (u : Unit) => match u with | _ => r = -1) (fun (u : Unit) t_ => match u with | _ => va_P (dC, dI) vwCl [(h0, .inr (13, moF a f w))] t_.heap ∧ va_K (dC, dI) vwCl [(cB, .byte), (cI, .int), (cJ, .long), (cZ, .boolean)] t_ ∧ va_D A [(h0, .inr (13, moF a f w))]) A
set_option maxHeartbeats 4000000 in
set_option maxRecDepth 100000 in
theorem t_X12_told_o (l : Launch) (dC : Nat → ClassId) (dI : Nat → Nat → Nat) (sz : Nat) (cB cI cJ cZ : ClassId) (h0 : Nat) (a : Nat → Nat) (f : Nat → Int32) (w : Int64) (x : Int32) (ho : x.toInt < 0 ∨ 5 < x.toInt) : Met l yX12_told (wsOf yX12_told cX12_told 7 (some .int)) ({ frames := 0, cells := 0, slots := 0, locals := 0 }) (pc_t_X12_told_o dC dI sz cB cI cJ cZ h0 a f w x) (qc_t_X12_told_o dC dI cB cI cJ cZ h0 a f w x (va_A (cs_t_X12_told_o cB cI cJ cZ h0 a f w x) sz)) 0 0 (va_A (cs_t_X12_told_o cB cI cJ cZ h0 a f w x) sz) := by
  refine Met.ofW (cc := cX12_told) (maxL := 7) (ret := (some .int)) (by decide) rfl ?_
  intro p e s m args below meth c s₁ B hml hv
  obtain ⟨rfl, hsz, hP, hK, hD0⟩ := hv
  have hx := B.exec
  have hb := B.bytes
  have hr := B.returns
  have hts := atoms_spec (ws := (wsOf yX12_told cX12_told 7 (some .int))) B.pre
  have hown : s.vm.findClass RX12 = some m.cls := findClass_of_methodNamed B.named
  have hlocks := B.notSynchronized
  subst hsz
  have hD := hD0.self (sz := s.heap.size)
  generalize hAe : va_A (cs_t_X12_told_o cB cI cJ cZ h0 a f w x) s.heap.size = A at hD ⊢
  have hA : ∀ q : Nat, s.heap.size ≤ q → A q := fun q h => by rw [← hAe]; exact Or.inr h
  have hS : va_S A s.heap s.heap [] := va_S.rf
  have hP : va_P (dC, dI) vwCl [(h0, .inr (13, moF a f w))] s.heap := hP
  have hl := lv_entry ([.ref h0, .int x]) (n := 7) (Nat.le_of_ble_eq_true rfl)
  rw [lg_entry_eq]
  generalize (lg_sl ([.ref h0, .int x]) ++ List.replicate (7 - (lg_sl ([.ref h0, .int x])).length) Slot.unset).toArray = ls at hl ⊢
  have hl : lv_has ls 7 [(0, .ref h0), (1, .int x)] := hl
  refine lv_iload_n hx hb dX12_told_0 rfl (lv_at hl 1 rfl) ?_
  refine lv_if_ne (tgt := 9) hx hb dX12_told_1 (by decide) (fun c_1 => ?_) (fun c_1 => ?_)
  · skip
    refine lv_iconst (v := 0) hx hb dX12_told_9 (by decide) ?_
    refine lv_istore_n (lv' := [(2, .int 0), (0, .ref h0), (1, .int x)]) hx hb dX12_told_10 rfl hl (by decide) rfl (fun ls hl => ?_)
    refine lv_iload_n hx hb dX12_told_11 rfl (lv_at hl 2 rfl) ?_
    refine lv_iconst (v := 1) hx hb dX12_told_12 (by decide) ?_
    refine lv_icmp_ne (tgt := 49) hx hb dX12_told_13 (by decide) (fun c_2 => ?_) (fun c_2 => ?_)
    · skip
      refine lv_iload_n hx hb dX12_told_49 rfl (lv_at hl 2 rfl) ?_
      refine lv_iconst (v := 2) hx hb dX12_told_50 (by decide) ?_
      refine lv_icmp_ne (tgt := 164) hx hb dX12_told_51 (by decide) (fun c_3 => ?_) (fun c_3 => ?_)
      · skip
        refine lv_iload_n hx hb dX12_told_164 rfl (lv_at hl 2 rfl) ?_
        refine lv_iconst (v := 3) hx hb dX12_told_165 (by decide) ?_
        refine lv_icmp_ne (tgt := 187) hx hb dX12_told_166 (by decide) (fun c_4 => ?_) (fun c_4 => ?_)
        · skip
          refine lv_iload_n hx hb dX12_told_187 rfl (lv_at hl 2 rfl) ?_
          refine lv_iconst (v := 4) hx hb dX12_told_188 (by decide) ?_
          refine lv_icmp_ne (tgt := 210) hx hb dX12_told_189 (by decide) (fun c_5 => ?_) (fun c_5 => ?_)
          · skip
            refine lv_iload_n hx hb dX12_told_210 rfl (lv_at hl 2 rfl) ?_
            refine lv_iconst (v := 5) hx hb dX12_told_211 (by decide) ?_
            refine lv_icmp_ne (tgt := 230) hx hb dX12_told_212 (by decide) (fun c_6 => ?_) (fun c_6 => ?_)
            · skip
              refine lv_iconst (v := (-1)) hx hb dX12_told_230 (by decide) ?_
              have hP9 := hP.sub (ws' := [(h0, .inr (13, moF a f w))]) [0] rfl
              have hD9 := hD.sub (ws' := [(h0, .inr (13, moF a f w))]) [0] (by decide) rfl
              have hK9 := hK.sub (tys' := [(cB, .byte), (cI, .int), (cJ, .long), (cZ, .boolean)]) [0, 1, 2, 3] rfl
              exact W.iret (v := (-1)) hx hb hr (fun t_ ht hW => ⟨⟨(-1), (), rfl, rfl, by rw [ht]; exact hP9, va_K.moved hW.alike hK9, hD9⟩, hS.F ht⟩) hS.2.2 dX12_told_231
            · skip
              exact absurd c_6 (fun h9 => by rw [h9] at ho; revert ho; decide)
          · skip
            exact absurd c_5 (fun h9 => by rw [h9] at ho; revert ho; decide)
        · skip
          exact absurd c_4 (fun h9 => by rw [h9] at ho; revert ho; decide)
      · skip
        exact absurd c_3 (fun h9 => by rw [h9] at ho; revert ho; decide)
    · skip
      exact absurd c_2 (fun h9 => by rw [h9] at ho; revert ho; decide)
  · skip
    exact absurd c_1 (fun h9 => by rw [h9] at ho; revert ho; decide)
abbrev cs_t_X12_told_1 (cB cI cJ cZ : ClassId) (h0 : Nat) (a : Nat → Nat) (f : Nat → Int32) (w : Int64) (rt : Nat → Int32) : va_W := [(h0, .inr (13, moF a f w)), (a 6, .inl (cZ, 48, .inl rt))]
abbrev pc_t_X12_told_1 (dC : Nat → ClassId) (dI : Nat → Nat → Nat) (sz : Nat) (cB cI cJ cZ : ClassId) (h0 : Nat) (a : Nat → Nat) (f : Nat → Int32) (w : Int64) (rt : Nat → Int32) : Array Value → State → Prop := va_Pc [.ref h0, .int 1] (fun U => U.heap.size = sz ∧ va_P (dC, dI) vwCl [(h0, .inr (13, moF a f w)), (a 6, .inl (cZ, 48, .inl rt))] U.heap ∧ va_K (dC, dI) vwCl [(cB, .byte), (cI, .int), (cJ, .long), (cZ, .boolean)] U ∧ va_D (fun _ => True) [(h0, .inr (13, moF a f w)), (a 6, .inl (cZ, 48, .inl rt))])
abbrev qc_t_X12_told_1 (dC : Nat → ClassId) (dI : Nat → Nat → Nat) (cB cI cJ cZ : ClassId) (h0 : Nat) (a : Nat → Nat) (f : Nat → Int32) (w : Int64) (rt : Nat → Int32) (A : Nat → Prop) : Array Value → State → Outcome → State → Prop := va_Qi (fun (r : Int32) (u : Unit) => match u with | _ => r = sumI (fun j => hvI (rt j)) 48) (fun (u : Unit) t_ => match u with | _ => va_P (dC, dI) vwCl [(h0, .inr (13, moF a f w)), (a 6, .inl (cZ, 48, .inl rt))] t_.heap ∧ va_K (dC, dI) vwCl [(cB, .byte), (cI, .int), (cJ, .long), (cZ, .boolean)] t_ ∧ va_D A [(h0, .inr (13, moF a f w)), (a 6, .inl (cZ, 48, .inl rt))]) A
set_option maxHeartbeats 4000000 in
set_option maxRecDepth 100000 in
theorem t_X12_told_1 (l : Launch) (dC : Nat → ClassId) (dI : Nat → Nat → Nat) (sz : Nat) (cB cI cJ cZ : ClassId) (h0 : Nat) (a : Nat → Nat) (f : Nat → Int32) (w : Int64) (rt : Nat → Int32)  : Met l yX12_told (wsOf yX12_told cX12_told 7 (some .int)) ({ frames := 0, cells := 0, slots := 0, locals := 0 }) (pc_t_X12_told_1 dC dI sz cB cI cJ cZ h0 a f w rt) (qc_t_X12_told_1 dC dI cB cI cJ cZ h0 a f w rt (va_A (cs_t_X12_told_1 cB cI cJ cZ h0 a f w rt) sz)) 0 0 (va_A (cs_t_X12_told_1 cB cI cJ cZ h0 a f w rt) sz) := by
  refine Met.ofW (cc := cX12_told) (maxL := 7) (ret := (some .int)) (by decide) rfl ?_
  intro p e s m args below meth c s₁ B hml hv
  obtain ⟨rfl, hsz, hP, hK, hD0⟩ := hv
  have hx := B.exec
  have hb := B.bytes
  have hr := B.returns
  have hts := atoms_spec (ws := (wsOf yX12_told cX12_told 7 (some .int))) B.pre
  have hown : s.vm.findClass RX12 = some m.cls := findClass_of_methodNamed B.named
  have hlocks := B.notSynchronized
  subst hsz
  have hD := hD0.self (sz := s.heap.size)
  generalize hAe : va_A (cs_t_X12_told_1 cB cI cJ cZ h0 a f w rt) s.heap.size = A at hD ⊢
  have hA : ∀ q : Nat, s.heap.size ≤ q → A q := fun q h => by rw [← hAe]; exact Or.inr h
  have hS : va_S A s.heap s.heap [] := va_S.rf
  have hP : va_P (dC, dI) vwCl [(h0, .inr (13, moF a f w)), (a 6, .inl (cZ, 48, .inl rt))] s.heap := hP
  have hl := lv_entry ([.ref h0, .int 1]) (n := 7) (Nat.le_of_ble_eq_true rfl)
  rw [lg_entry_eq]
  generalize (lg_sl ([.ref h0, .int 1]) ++ List.replicate (7 - (lg_sl ([.ref h0, .int 1])).length) Slot.unset).toArray = ls at hl ⊢
  have hl : lv_has ls 7 [(0, .ref h0), (1, .int 1)] := hl
  refine lv_iload_n hx hb dX12_told_0 rfl (lv_at hl 1 rfl) ?_
  refine lv_if_ne (tgt := 9) hx hb dX12_told_1 (by decide) (fun c_1 => ?_) (fun c_1 => ?_)
  · skip
    refine lv_iconst (v := 0) hx hb dX12_told_9 (by decide) ?_
    refine lv_istore_n (lv' := [(2, .int 0), (0, .ref h0), (1, .int 1)]) hx hb dX12_told_10 rfl hl (by decide) rfl (fun ls hl => ?_)
    refine lv_iload_n hx hb dX12_told_11 rfl (lv_at hl 2 rfl) ?_
    refine lv_iconst (v := 1) hx hb dX12_told_12 (by decide) ?_
    refine lv_icmp_ne (tgt := 49) hx hb dX12_told_13 (by decide) (fun c_2 => ?_) (fun c_2 => ?_)
    · skip
      exact absurd c_2 (by decide)
    · skip
      refine lv_iconst (v := 0) hx hb dX12_told_16 (by decide) ?_
      refine lv_istore_n (lv' := [(3, .int 0), (2, .int 0), (0, .ref h0), (1, .int 1)]) hx hb dX12_told_17 rfl hl (by decide) rfl (fun ls hl => ?_)
      have lp_18 : ∀ (n_ : Nat) (j : Nat) (xs : Int32), j ≤ 48 → xs = sumI (fun j => hvI (rt j)) j → 48 - j < n_ → ∀ (H : Heap) (locs : List Loc) (ls : Array Slot), va_P (dC, dI) vwCl [(h0, .inr (13, moF a f w)), (a 6, .inl (cZ, 48, .inl rt))] H → va_D A [(h0, .inr (13, moF a f w)), (a 6, .inl (cZ, 48, .inl rt))] → va_S A s.heap H locs → lv_has ls 7 [(3, .int (nI j)), (2, .int xs), (0, .ref h0), (1, .int 1)] → W p l e (headSpec (wsOf yX12_told cX12_told 7 (some .int)) ({ frames := 0, cells := 0, slots := 0, locals := 0 })).room s m ([.ref h0, .int 1] : List Value).toArray below meth c H locs 0 0 (MQ below (qc_t_X12_told_1 dC dI cB cI cJ cZ h0 a f w rt A) ([.ref h0, .int 1] : List Value).toArray s 0 0 A) (F0 m 18 ls []) := by
        intro n_
        induction n_ with
        | zero => intro j xs hj hxs hm; exact absurd hm (Nat.not_lt_zero _)
        | succ n_ ih_18 =>
          intro j xs hj hxs hm H locs ls hP hD hS hl
          refine lv_iload_n hx hb dX12_told_18 rfl (lv_at hl 0 rfl) ?_
          refine lv_bipush (v := 48) hx hb dX12_told_19 (by decide) ?_
          refine lv_icmp_ge (tgt := 47) hx hb dX12_told_21 (by decide) (fun c_3 => ?_) (fun c_3 => ?_)
          · skip
            have c_3 : 48 ≤ j := (nI_leI (a := 48) (b := j) (by omega) (by omega)).mp c_3
            refine lv_iload_n hx hb dX12_told_47 rfl (lv_at hl 1 rfl) ?_
            have hP9 := hP.sub (ws' := [(h0, .inr (13, moF a f w)), (a 6, .inl (cZ, 48, .inl rt))]) [0, 1] rfl
            have hD9 := hD.sub (ws' := [(h0, .inr (13, moF a f w)), (a 6, .inl (cZ, 48, .inl rt))]) [0, 1] (by decide) rfl
            have hK9 := hK.sub (tys' := [(cB, .byte), (cI, .int), (cJ, .long), (cZ, .boolean)]) [0, 1, 2, 3] rfl
            exact W.iret (v := xs) hx hb hr (fun t_ ht hW => ⟨⟨xs, (), rfl, by rw [hxs]; rw [show j = 48 by omega], by rw [ht]; exact hP9, va_K.moved hW.alike hK9, hD9⟩, hS.F ht⟩) hS.2.2 dX12_told_48
          · skip
            have c_3 : ¬ (48 ≤ j) := fun h => c_3 ((nI_leI (a := 48) (b := j) (by omega) (by omega)).mpr h)
            refine lv_iload_n hx hb dX12_told_24 rfl (lv_at hl 1 rfl) ?_
            have mg_4 : ∀ (H : Heap) (locs : List Loc), va_P (dC, dI) vwCl [(h0, .inr (13, moF a f w)), (a 6, .inl (cZ, 48, .inl rt))] H → va_D A [(h0, .inr (13, moF a f w)), (a 6, .inl (cZ, 48, .inl rt))] → va_S A s.heap H locs → W p l e (headSpec (wsOf yX12_told cX12_told 7 (some .int)) ({ frames := 0, cells := 0, slots := 0, locals := 0 })).room s m ([.ref h0, .int 1] : List Value).toArray below meth c H locs 0 0 (MQ below (qc_t_X12_told_1 dC dI cB cI cJ cZ h0 a f w rt A) ([.ref h0, .int 1] : List Value).toArray s 0 0 A) (F0 m 39 ls [.int (hvI (rt j)), .int xs]) := by
              intro H locs hP hD hS
              refine lv_iadd hx hb dX12_told_39 ?_
              refine lv_istore_n (lv' := [(2, .int (xs + (hvI (rt j)))), (3, .int (nI j)), (0, .ref h0), (1, .int 1)]) hx hb dX12_told_40 rfl hl (by decide) rfl (fun ls hl => ?_)
              refine lv_iinc (v := nI (j + 1)) (lv' := [(3, .int (nI (j + 1))), (2, .int (xs + (hvI (rt j)))), (0, .ref h0), (1, .int 1)]) hx hb dX12_told_41 hl (k := 1) rfl (nI_add j 1) (by decide) rfl (fun ls hl => ?_)
              refine lv_goto (tgt := 18) hx hb dX12_told_44 (by decide) ?_
              exact ih_18 (j + 1) (xs + hvI (rt j)) (by omega) (by rw [hxs]; rfl) (by omega) _ _ _ (hP.sub [0, 1] rfl) (hD.sub [0, 1] (by decide) rfl) hS (lv_sub hl [0, 1, 2, 3] rfl)
            refine lv_aload_n hx hb dX12_told_25 rfl (lv_at hl 2 rfl) ?_
            refine va_get (D := (dC, dI)) (ci := 13) (v := .ref (a 6)) (C := RX12) (T := TX12) (N := 115) hx hb hts (fun w h => List.mem_cons_of_mem _ (uG_X12 w h)) hown hK hP 0 rfl rfl 6 (by decide) (hts _ (List.mem_cons_of_mem _ kw_1697)) (fun _ h9 => h9) rfl dX12_told_26 ?_
            refine lv_iload_n hx hb dX12_told_29 rfl (lv_at hl 0 rfl) ?_
            refine va_zald hx hb hK hP 1 3 rfl rfl (i := (nI j)) (vp_in_nI (n := j) (N := 48) (by omega) (by omega)) dX12_told_30 ?_
            refine lv_topi (fun x_5 ex_5 => ?_)
            have ex_5 : x_5 = rt j := ex_5.trans (congrArg rt (nI_clamp (n := j) (by omega)))
            subst ex_5
            refine lv_if_eq (tgt := 38) hx hb dX12_told_31 (by decide) (fun c_6 => ?_) (fun c_6 => ?_)
            · skip
              refine lv_iconst (v := 0) hx hb dX12_told_38 (by decide) ?_
              exact W.eq (by unfold hvI; rw [if_pos c_6]) (mg_4 _ _ hP hD hS)
            · skip
              refine lv_iconst (v := 1) hx hb dX12_told_34 (by decide) ?_
              refine lv_goto (tgt := 39) hx hb dX12_told_35 (by decide) ?_
              exact W.eq (by unfold hvI; rw [if_neg c_6]) (mg_4 _ _ hP hD hS)
      exact lp_18 _ 0 0 (Nat.zero_le _) rfl (Nat.lt_succ_self _) _ _ _ (hP.sub [0, 1] rfl) (hD.sub [0, 1] (by decide) rfl) hS (lv_sub hl [0, 1, 2, 3] rfl)
  · skip
    exact absurd c_1 (by decide)
theorem dX12_back_0 : decode cX12_back 0 = .ok (.aload_n 0, 1) := by decide +kernel
theorem dX12_back_1 : decode cX12_back 1 = .ok (.iconst 0, 1) := by decide +kernel
theorem dX12_back_2 : decode cX12_back 2 = .ok (.putfield 271, 3) := by decide +kernel
theorem dX12_back_5 : decode cX12_back 5 = .ok (.iload_n 1, 1) := by decide +kernel
theorem dX12_back_6 : decode cX12_back 6 = .ok (.ifCond .lt 35, 3) := by decide +kernel
theorem dX12_back_9 : decode cX12_back 9 = .ok (.iload_n 1, 1) := by decide +kernel
theorem dX12_back_10 : decode cX12_back 10 = .ok (.aload_n 0, 1) := by decide +kernel
theorem dX12_back_11 : decode cX12_back 11 = .ok (.getfield 261, 3) := by decide +kernel
theorem dX12_back_14 : decode cX12_back 14 = .ok (.if_icmp .ge 27, 3) := by decide +kernel
theorem dX12_back_41 : decode cX12_back 41 = .ok (.iconst 0, 1) := by decide +kernel
theorem dX12_back_42 : decode cX12_back 42 = .ok (.ireturn, 1) := by decide +kernel
abbrev cs_t_X12_back_oi (cB cI cJ cZ : ClassId) (h0 : Nat) (a : Nat → Nat) (f : Nat → Int32) (w : Int64) (k : Nat) (rt : Nat → Int32) (x y : Int32) : va_W := [(h0, .inr (13, moF a (upd f 4 (nI k)) w)), (a 6, .inl (cZ, 48, .inl rt))]
abbrev pc_t_X12_back_oi (dC : Nat → ClassId) (dI : Nat → Nat → Nat) (sz : Nat) (cB cI cJ cZ : ClassId) (h0 : Nat) (a : Nat → Nat) (f : Nat → Int32) (w : Int64) (k : Nat) (rt : Nat → Int32) (x y : Int32) : Array Value → State → Prop := va_Pc [.ref h0, .int x, .int y] (fun U => U.heap.size = sz ∧ va_P (dC, dI) vwCl [(h0, .inr (13, moF a (upd f 4 (nI k)) w)), (a 6, .inl (cZ, 48, .inl rt))] U.heap ∧ va_K (dC, dI) vwCl [(cB, .byte), (cI, .int), (cJ, .long), (cZ, .boolean)] U ∧ va_D (fun _ => True) [(h0, .inr (13, moF a (upd f 4 (nI k)) w)), (a 6, .inl (cZ, 48, .inl rt))])
abbrev qc_t_X12_back_oi (dC : Nat → ClassId) (dI : Nat → Nat → Nat) (cB cI cJ cZ : ClassId) (h0 : Nat) (a : Nat → Nat) (f : Nat → Int32) (w : Int64) (k : Nat) (rt : Nat → Int32) (x y : Int32) (A : Nat → Prop) : Array Value → State → Outcome → State → Prop := va_Qi (fun (r : Int32) (u : Unit) => match u with | _ => r = 0) (fun (u : Unit) t_ => match u with | _ => va_P (dC, dI) vwCl [(h0, .inr (13, moF a (upd (upd f 4 (nI k)) 110 0) w)), (a 6, .inl (cZ, 48, .inl rt))] t_.heap ∧ va_K (dC, dI) vwCl [(cB, .byte), (cI, .int), (cJ, .long), (cZ, .boolean)] t_ ∧ va_D A [(h0, .inr (13, moF a (upd (upd f 4 (nI k)) 110 0) w)), (a 6, .inl (cZ, 48, .inl rt))]) A
set_option maxHeartbeats 4000000 in
set_option maxRecDepth 100000 in
theorem t_X12_back_oi (l : Launch) (dC : Nat → ClassId) (dI : Nat → Nat → Nat) (sz : Nat) (cB cI cJ cZ : ClassId) (h0 : Nat) (a : Nat → Nat) (f : Nat → Int32) (w : Int64) (k : Nat) (rt : Nat → Int32) (x y : Int32) (hk : k ≤ 6) (ho : x < 0 ∨ nI k ≤ x) : Met l yX12_back (wsOf yX12_back cX12_back 3 (some .boolean)) ({ frames := 1, cells := 0, slots := 0, locals := 60 }) (pc_t_X12_back_oi dC dI sz cB cI cJ cZ h0 a f w k rt x y) (qc_t_X12_back_oi dC dI cB cI cJ cZ h0 a f w k rt x y (va_A (cs_t_X12_back_oi cB cI cJ cZ h0 a f w k rt x y) sz)) 0 0 (va_A (cs_t_X12_back_oi cB cI cJ cZ h0 a f w k rt x y) sz) := by
  refine Met.ofW (cc := cX12_back) (maxL := 3) (ret := (some .boolean)) (by decide) rfl ?_
  intro p e s m args below meth c s₁ B hml hv
  obtain ⟨rfl, hsz, hP, hK, hD0⟩ := hv
  have hx := B.exec
  have hb := B.bytes
  have hr := B.returns
  have hts := atoms_spec (ws := (wsOf yX12_back cX12_back 3 (some .boolean))) B.pre
  have hown : s.vm.findClass RX12 = some m.cls := findClass_of_methodNamed B.named
  have hlocks := B.notSynchronized
  subst hsz
  have hD := hD0.self (sz := s.heap.size)
  generalize hAe : va_A (cs_t_X12_back_oi cB cI cJ cZ h0 a f w k rt x y) s.heap.size = A at hD ⊢
  have hA : ∀ q : Nat, s.heap.size ≤ q → A q := fun q h => by rw [← hAe]; exact Or.inr h
  have hS : va_S A s.heap s.heap [] := va_S.rf
  have hP : va_P (dC, dI) vwCl [(h0, .inr (13, moF a (upd f 4 (nI k)) w)), (a 6, .inl (cZ, 48, .inl rt))] s.heap := hP
  have hl := lv_entry ([.ref h0, .int x, .int y]) (n := 3) (Nat.le_of_ble_eq_true rfl)
  rw [lg_entry_eq]
  generalize (lg_sl ([.ref h0, .int x, .int y]) ++ List.replicate (3 - (lg_sl ([.ref h0, .int x, .int y])).length) Slot.unset).toArray = ls at hl ⊢
  have hl : lv_has ls 3 [(0, .ref h0), (1, .int x), (2, .int y)] := hl
  refine lv_aload_n hx hb dX12_back_0 rfl (lv_at hl 0 rfl) ?_
  refine lv_iconst (v := 0) hx hb dX12_back_1 (by decide) ?_
  refine va_put (D := (dC, dI)) (ci := 13) (v := .int 0) (ty := .int) (C := RX12) (T := TX12) (N := 115) hx hb hts (fun w h => List.mem_cons_of_mem _ (uG_X12 w h)) tyX12 tyX12_ok nmX12 hown hK hP hD hS 0 rfl rfl 110 (by decide) (hts _ (List.mem_cons_of_mem _ kw_1801)) (fun _ h9 => h9) rfl (by decide +kernel) rfl rfl (Nat.le_of_ble_eq_true rfl) dX12_back_2 (fun H locs hP hD hS => ?_)
  have hP : va_P (dC, dI) vwCl [(h0, .inr (13, moF a (upd (upd f 4 (nI k)) 110 0) w)), (a 6, .inl (cZ, 48, .inl rt))] H := hP
  have hD : va_D A [(h0, .inr (13, moF a (upd (upd f 4 (nI k)) 110 0) w)), (a 6, .inl (cZ, 48, .inl rt))] := hD
  refine lv_iload_n hx hb dX12_back_5 rfl (lv_at hl 1 rfl) ?_
  refine lv_if_lt (tgt := 41) hx hb dX12_back_6 (by decide) (fun c_1 => ?_) (fun c_1 => ?_)
  · skip
    refine lv_iconst (v := 0) hx hb dX12_back_41 (by decide) ?_
    have hP9 := hP.sub (ws' := [(h0, .inr (13, moF a (upd (upd f 4 (nI k)) 110 0) w)), (a 6, .inl (cZ, 48, .inl rt))]) [0, 1] rfl
    have hD9 := hD.sub (ws' := [(h0, .inr (13, moF a (upd (upd f 4 (nI k)) 110 0) w)), (a 6, .inl (cZ, 48, .inl rt))]) [0, 1] (by decide) rfl
    have hK9 := hK.sub (tys' := [(cB, .byte), (cI, .int), (cJ, .long), (cZ, .boolean)]) [0, 1, 2, 3] rfl
    exact W.zret (v := 0) hx hb hr (by rfl) (fun t_ ht hW => ⟨⟨0, (), rfl, rfl, by rw [ht]; exact hP9, va_K.moved hW.alike hK9, hD9⟩, hS.F ht⟩) hS.2.2 dX12_back_42
  · skip
    refine lv_iload_n hx hb dX12_back_9 rfl (lv_at hl 1 rfl) ?_
    refine lv_aload_n hx hb dX12_back_10 rfl (lv_at hl 0 rfl) ?_
    refine va_get (D := (dC, dI)) (ci := 13) (v := .int (nI k)) (C := RX12) (T := TX12) (N := 115) hx hb hts (fun w h => List.mem_cons_of_mem _ (uG_X12 w h)) hown hK hP 0 rfl rfl 4 (by decide) (hts _ (List.mem_cons_of_mem _ kw_1695)) (fun _ h9 => h9) rfl dX12_back_11 ?_
    refine lv_icmp_ge (tgt := 41) hx hb dX12_back_14 (by decide) (fun c_2 => ?_) (fun c_2 => ?_)
    · skip
      refine lv_iconst (v := 0) hx hb dX12_back_41 (by decide) ?_
      have hP9 := hP.sub (ws' := [(h0, .inr (13, moF a (upd (upd f 4 (nI k)) 110 0) w)), (a 6, .inl (cZ, 48, .inl rt))]) [0, 1] rfl
      have hD9 := hD.sub (ws' := [(h0, .inr (13, moF a (upd (upd f 4 (nI k)) 110 0) w)), (a 6, .inl (cZ, 48, .inl rt))]) [0, 1] (by decide) rfl
      have hK9 := hK.sub (tys' := [(cB, .byte), (cI, .int), (cJ, .long), (cZ, .boolean)]) [0, 1, 2, 3] rfl
      exact W.zret (v := 0) hx hb hr (by rfl) (fun t_ ht hW => ⟨⟨0, (), rfl, rfl, by rw [ht]; exact hP9, va_K.moved hW.alike hK9, hD9⟩, hS.F ht⟩) hS.2.2 dX12_back_42
    · skip
      exact absurd ho (not_or.mpr ⟨c_1, c_2⟩)
theorem dX12_row_0 : decode cX12_row 0 = .ok (.aload_n 0, 1) := by decide +kernel
theorem dX12_row_1 : decode cX12_row 1 = .ok (.getfield 268, 3) := by decide +kernel
theorem dX12_row_4 : decode cX12_row 4 = .ok (.istore 4, 2) := by decide +kernel
theorem dX12_row_6 : decode cX12_row 6 = .ok (.aload_n 0, 1) := by decide +kernel
theorem dX12_row_7 : decode cX12_row 7 = .ok (.iconst 0, 1) := by decide +kernel
theorem dX12_row_8 : decode cX12_row 8 = .ok (.putfield 268, 3) := by decide +kernel
theorem dX12_row_11 : decode cX12_row 11 = .ok (.aload_n 0, 1) := by decide +kernel
theorem dX12_row_12 : decode cX12_row 12 = .ok (.iconst 0, 1) := by decide +kernel
theorem dX12_row_13 : decode cX12_row 13 = .ok (.putfield 271, 3) := by decide +kernel
theorem dX12_row_16 : decode cX12_row 16 = .ok (.iload_n 1, 1) := by decide +kernel
theorem dX12_row_17 : decode cX12_row 17 = .ok (.ifCond .lt 22, 3) := by decide +kernel
theorem dX12_row_20 : decode cX12_row 20 = .ok (.iload_n 1, 1) := by decide +kernel
theorem dX12_row_21 : decode cX12_row 21 = .ok (.aload_n 0, 1) := by decide +kernel
theorem dX12_row_22 : decode cX12_row 22 = .ok (.getfield 261, 3) := by decide +kernel
theorem dX12_row_25 : decode cX12_row 25 = .ok (.if_icmp .ge 14, 3) := by decide +kernel
theorem dX12_row_39 : decode cX12_row 39 = .ok (.iconst (-1), 1) := by decide +kernel
theorem dX12_row_40 : decode cX12_row 40 = .ok (.ireturn, 1) := by decide +kernel
abbrev cs_t_X12_row_o (cB cI cJ cZ : ClassId) (h0 : Nat) (a : Nat → Nat) (f : Nat → Int32) (w : Int64) (k d : Nat) (cf rt : Nat → Int32) (ti rv dv : Nat → Int64) (rn dn : Nat → Int32) (y : Int32) (x : Int64) : va_W := [(h0, .inr (13, moF a (upd (upd f 4 (nI k)) 11 (nI d)) w)), (a 5, .inl (cI, 6, .inl cf)), (a 6, .inl (cZ, 48, .inl rt)), (a 7, .inl (cJ, 48, .inr (.inl ti))), (a 8, .inl (cJ, 192, .inr (.inl rv))), (a 9, .inl (cZ, 192, .inl rn)), (a 12, .inl (cJ, 4, .inr (.inl dv))), (a 13, .inl (cZ, 4, .inl dn))]
abbrev pc_t_X12_row_o (dC : Nat → ClassId) (dI : Nat → Nat → Nat) (sz : Nat) (cB cI cJ cZ : ClassId) (h0 : Nat) (a : Nat → Nat) (f : Nat → Int32) (w : Int64) (k d : Nat) (cf rt : Nat → Int32) (ti rv dv : Nat → Int64) (rn dn : Nat → Int32) (y : Int32) (x : Int64) : Array Value → State → Prop := va_Pc [.ref h0, .int y, .long x] (fun U => U.heap.size = sz ∧ va_P (dC, dI) vwCl [(h0, .inr (13, moF a (upd (upd f 4 (nI k)) 11 (nI d)) w)), (a 5, .inl (cI, 6, .inl cf)), (a 6, .inl (cZ, 48, .inl rt)), (a 7, .inl (cJ, 48, .inr (.inl ti))), (a 8, .inl (cJ, 192, .inr (.inl rv))), (a 9, .inl (cZ, 192, .inl rn)), (a 12, .inl (cJ, 4, .inr (.inl dv))), (a 13, .inl (cZ, 4, .inl dn))] U.heap ∧ va_K (dC, dI) vwCl [(cB, .byte), (cI, .int), (cJ, .long), (cZ, .boolean)] U ∧ va_D (fun _ => True) [(h0, .inr (13, moF a (upd (upd f 4 (nI k)) 11 (nI d)) w)), (a 5, .inl (cI, 6, .inl cf)), (a 6, .inl (cZ, 48, .inl rt)), (a 7, .inl (cJ, 48, .inr (.inl ti))), (a 8, .inl (cJ, 192, .inr (.inl rv))), (a 9, .inl (cZ, 192, .inl rn)), (a 12, .inl (cJ, 4, .inr (.inl dv))), (a 13, .inl (cZ, 4, .inl dn))])
abbrev qc_t_X12_row_o (dC : Nat → ClassId) (dI : Nat → Nat → Nat) (cB cI cJ cZ : ClassId) (h0 : Nat) (a : Nat → Nat) (f : Nat → Int32) (w : Int64) (k d : Nat) (cf rt : Nat → Int32) (ti rv dv : Nat → Int64) (rn dn : Nat → Int32) (y : Int32) (x : Int64) (A : Nat → Prop) : Array Value → State → Outcome → State → Prop := va_Qi (fun (r : Int32) (u : Unit) => match u with | _ => r = -1) (fun (u : Unit) t_ => match u with | _ => va_P (dC, dI) vwCl [(h0, .inr (13, moF a (upd (upd (upd (upd f 4 (nI k)) 11 (nI d)) 11 0) 110 0) w)), (a 5, .inl (cI, 6, .inl cf)), (a 6, .inl (cZ, 48, .inl rt)), (a 7, .inl (cJ, 48, .inr (.inl ti))), (a 8, .inl (cJ, 192, .inr (.inl rv))), (a 9, .inl (cZ, 192, .inl rn)), (a 12, .inl (cJ, 4, .inr (.inl dv))), (a 13, .inl (cZ, 4, .inl dn))] t_.heap ∧ va_K (dC, dI) vwCl [(cB, .byte), (cI, .int), (cJ, .long), (cZ, .boolean)] t_ ∧ va_D A [(h0, .inr (13, moF a (upd (upd (upd (upd f 4 (nI k)) 11 (nI d)) 11 0) 110 0) w)), (a 5, .inl (cI, 6, .inl cf)), (a 6, .inl (cZ, 48, .inl rt)), (a 7, .inl (cJ, 48, .inr (.inl ti))), (a 8, .inl (cJ, 192, .inr (.inl rv))), (a 9, .inl (cZ, 192, .inl rn)), (a 12, .inl (cJ, 4, .inr (.inl dv))), (a 13, .inl (cZ, 4, .inl dn))]) A
set_option maxHeartbeats 4000000 in
set_option maxRecDepth 100000 in
theorem t_X12_row_o (l : Launch) (dC : Nat → ClassId) (dI : Nat → Nat → Nat) (sz : Nat) (cB cI cJ cZ : ClassId) (h0 : Nat) (a : Nat → Nat) (f : Nat → Int32) (w : Int64) (k d : Nat) (cf rt : Nat → Int32) (ti rv dv : Nat → Int64) (rn dn : Nat → Int32) (y : Int32) (x : Int64) (hk : k ≤ 6) (ho : y < 0 ∨ nI k ≤ y) : Met l yX12_row (wsOf yX12_row cX12_row 8 (some .int)) ({ frames := 1, cells := 0, slots := 0, locals := 60 }) (pc_t_X12_row_o dC dI sz cB cI cJ cZ h0 a f w k d cf rt ti rv dv rn dn y x) (qc_t_X12_row_o dC dI cB cI cJ cZ h0 a f w k d cf rt ti rv dv rn dn y x (va_A (cs_t_X12_row_o cB cI cJ cZ h0 a f w k d cf rt ti rv dv rn dn y x) sz)) 0 0 (va_A (cs_t_X12_row_o cB cI cJ cZ h0 a f w k d cf rt ti rv dv rn dn y x) sz) := by
  refine Met.ofW (cc := cX12_row) (maxL := 8) (ret := (some .int)) (by decide) rfl ?_
  intro p e s m args below meth c s₁ B hml hv
  obtain ⟨rfl, hsz, hP, hK, hD0⟩ := hv
  have hx := B.exec
  have hb := B.bytes
  have hr := B.returns
  have hts := atoms_spec (ws := (wsOf yX12_row cX12_row 8 (some .int))) B.pre
  have hown : s.vm.findClass RX12 = some m.cls := findClass_of_methodNamed B.named
  have hlocks := B.notSynchronized
  subst hsz
  have hD := hD0.self (sz := s.heap.size)
  generalize hAe : va_A (cs_t_X12_row_o cB cI cJ cZ h0 a f w k d cf rt ti rv dv rn dn y x) s.heap.size = A at hD ⊢
  have hA : ∀ q : Nat, s.heap.size ≤ q → A q := fun q h => by rw [← hAe]; exact Or.inr h
  have hS : va_S A s.heap s.heap [] := va_S.rf
  have hP : va_P (dC, dI) vwCl [(h0, .inr (13, moF a (upd (upd f 4 (nI k)) 11 (nI d)) w)), (a 5, .inl (cI, 6, .inl cf)), (a 6, .inl (cZ, 48, .inl rt)), (a 7, .inl (cJ, 48, .inr (.inl ti))), (a 8, .inl (cJ, 192, .inr (.inl rv))), (a 9, .inl (cZ, 192, .inl rn)), (a 12, .inl (cJ, 4, .inr (.inl dv))), (a 13, .inl (cZ, 4, .inl dn))] s.heap := hP
  have hl := lv_entry ([.ref h0, .int y, .long x]) (n := 8) (Nat.le_of_ble_eq_true rfl)
  rw [lg_entry_eq]
  generalize (lg_sl ([.ref h0, .int y, .long x]) ++ List.replicate (8 - (lg_sl ([.ref h0, .int y, .long x])).length) Slot.unset).toArray = ls at hl ⊢
  have hl : lv_has ls 8 [(0, .ref h0), (1, .int y), (2, .long x)] := hl
  refine lv_aload_n hx hb dX12_row_0 rfl (lv_at hl 0 rfl) ?_
  refine va_get (D := (dC, dI)) (ci := 13) (v := .int (nI d)) (C := RX12) (T := TX12) (N := 115) hx hb hts (fun w h => List.mem_cons_of_mem _ (uG_X12 w h)) hown hK hP 0 rfl rfl 11 (by decide) (hts _ (List.mem_cons_of_mem _ kw_1702)) (fun _ h9 => h9) rfl dX12_row_1 ?_
  refine lv_istore (lv' := [(4, .int (nI d)), (0, .ref h0), (1, .int y), (2, .long x)]) hx hb dX12_row_4 hl (by decide) rfl (fun ls hl => ?_)
  refine lv_aload_n hx hb dX12_row_6 rfl (lv_at hl 1 rfl) ?_
  refine lv_iconst (v := 0) hx hb dX12_row_7 (by decide) ?_
  refine va_put (D := (dC, dI)) (ci := 13) (v := .int 0) (ty := .int) (C := RX12) (T := TX12) (N := 115) hx hb hts (fun w h => List.mem_cons_of_mem _ (uG_X12 w h)) tyX12 tyX12_ok nmX12 hown hK hP hD hS 0 rfl rfl 11 (by decide) (hts _ (List.mem_cons_of_mem _ kw_1702)) (fun _ h9 => h9) rfl (by decide +kernel) rfl rfl (Nat.le_of_ble_eq_true rfl) dX12_row_8 (fun H locs hP hD hS => ?_)
  have hP : va_P (dC, dI) vwCl [(h0, .inr (13, moF a (upd (upd f 4 (nI k)) 11 0) w)), (a 5, .inl (cI, 6, .inl cf)), (a 6, .inl (cZ, 48, .inl rt)), (a 7, .inl (cJ, 48, .inr (.inl ti))), (a 8, .inl (cJ, 192, .inr (.inl rv))), (a 9, .inl (cZ, 192, .inl rn)), (a 12, .inl (cJ, 4, .inr (.inl dv))), (a 13, .inl (cZ, 4, .inl dn))] H := hP
  have hD : va_D A [(h0, .inr (13, moF a (upd (upd f 4 (nI k)) 11 0) w)), (a 5, .inl (cI, 6, .inl cf)), (a 6, .inl (cZ, 48, .inl rt)), (a 7, .inl (cJ, 48, .inr (.inl ti))), (a 8, .inl (cJ, 192, .inr (.inl rv))), (a 9, .inl (cZ, 192, .inl rn)), (a 12, .inl (cJ, 4, .inr (.inl dv))), (a 13, .inl (cZ, 4, .inl dn))] := hD
  refine lv_aload_n hx hb dX12_row_11 rfl (lv_at hl 1 rfl) ?_
  refine lv_iconst (v := 0) hx hb dX12_row_12 (by decide) ?_
  refine va_put (D := (dC, dI)) (ci := 13) (v := .int 0) (ty := .int) (C := RX12) (T := TX12) (N := 115) hx hb hts (fun w h => List.mem_cons_of_mem _ (uG_X12 w h)) tyX12 tyX12_ok nmX12 hown hK hP hD hS 0 rfl rfl 110 (by decide) (hts _ (List.mem_cons_of_mem _ kw_1801)) (fun _ h9 => h9) rfl (by decide +kernel) rfl rfl (Nat.le_of_ble_eq_true rfl) dX12_row_13 (fun H locs hP hD hS => ?_)
  have hP : va_P (dC, dI) vwCl [(h0, .inr (13, moF a (upd (upd (upd f 4 (nI k)) 11 0) 110 0) w)), (a 5, .inl (cI, 6, .inl cf)), (a 6, .inl (cZ, 48, .inl rt)), (a 7, .inl (cJ, 48, .inr (.inl ti))), (a 8, .inl (cJ, 192, .inr (.inl rv))), (a 9, .inl (cZ, 192, .inl rn)), (a 12, .inl (cJ, 4, .inr (.inl dv))), (a 13, .inl (cZ, 4, .inl dn))] H := hP
  have hD : va_D A [(h0, .inr (13, moF a (upd (upd (upd f 4 (nI k)) 11 0) 110 0) w)), (a 5, .inl (cI, 6, .inl cf)), (a 6, .inl (cZ, 48, .inl rt)), (a 7, .inl (cJ, 48, .inr (.inl ti))), (a 8, .inl (cJ, 192, .inr (.inl rv))), (a 9, .inl (cZ, 192, .inl rn)), (a 12, .inl (cJ, 4, .inr (.inl dv))), (a 13, .inl (cZ, 4, .inl dn))] := hD
  refine lv_iload_n hx hb dX12_row_16 rfl (lv_at hl 2 rfl) ?_
  refine lv_if_lt (tgt := 39) hx hb dX12_row_17 (by decide) (fun c_1 => ?_) (fun c_1 => ?_)
  · skip
    refine lv_iconst (v := (-1)) hx hb dX12_row_39 (by decide) ?_
    have hP9 := hP.sub (ws' := [(h0, .inr (13, moF a (upd (upd (upd f 4 (nI k)) 11 0) 110 0) w)), (a 5, .inl (cI, 6, .inl cf)), (a 6, .inl (cZ, 48, .inl rt)), (a 7, .inl (cJ, 48, .inr (.inl ti))), (a 8, .inl (cJ, 192, .inr (.inl rv))), (a 9, .inl (cZ, 192, .inl rn)), (a 12, .inl (cJ, 4, .inr (.inl dv))), (a 13, .inl (cZ, 4, .inl dn))]) [0, 1, 2, 3, 4, 5, 6, 7] rfl
    have hD9 := hD.sub (ws' := [(h0, .inr (13, moF a (upd (upd (upd f 4 (nI k)) 11 0) 110 0) w)), (a 5, .inl (cI, 6, .inl cf)), (a 6, .inl (cZ, 48, .inl rt)), (a 7, .inl (cJ, 48, .inr (.inl ti))), (a 8, .inl (cJ, 192, .inr (.inl rv))), (a 9, .inl (cZ, 192, .inl rn)), (a 12, .inl (cJ, 4, .inr (.inl dv))), (a 13, .inl (cZ, 4, .inl dn))]) [0, 1, 2, 3, 4, 5, 6, 7] (by decide) rfl
    have hK9 := hK.sub (tys' := [(cB, .byte), (cI, .int), (cJ, .long), (cZ, .boolean)]) [0, 1, 2, 3] rfl
    exact W.iret (v := (-1)) hx hb hr (fun t_ ht hW => ⟨⟨(-1), (), rfl, rfl, by rw [ht]; exact hP9, va_K.moved hW.alike hK9, hD9⟩, hS.F ht⟩) hS.2.2 dX12_row_40
  · skip
    refine lv_iload_n hx hb dX12_row_20 rfl (lv_at hl 2 rfl) ?_
    refine lv_aload_n hx hb dX12_row_21 rfl (lv_at hl 1 rfl) ?_
    refine va_get (D := (dC, dI)) (ci := 13) (v := .int (nI k)) (C := RX12) (T := TX12) (N := 115) hx hb hts (fun w h => List.mem_cons_of_mem _ (uG_X12 w h)) hown hK hP 0 rfl rfl 4 (by decide) (hts _ (List.mem_cons_of_mem _ kw_1695)) (fun _ h9 => h9) rfl dX12_row_22 ?_
    refine lv_icmp_ge (tgt := 39) hx hb dX12_row_25 (by decide) (fun c_2 => ?_) (fun c_2 => ?_)
    · skip
      refine lv_iconst (v := (-1)) hx hb dX12_row_39 (by decide) ?_
      have hP9 := hP.sub (ws' := [(h0, .inr (13, moF a (upd (upd (upd f 4 (nI k)) 11 0) 110 0) w)), (a 5, .inl (cI, 6, .inl cf)), (a 6, .inl (cZ, 48, .inl rt)), (a 7, .inl (cJ, 48, .inr (.inl ti))), (a 8, .inl (cJ, 192, .inr (.inl rv))), (a 9, .inl (cZ, 192, .inl rn)), (a 12, .inl (cJ, 4, .inr (.inl dv))), (a 13, .inl (cZ, 4, .inl dn))]) [0, 1, 2, 3, 4, 5, 6, 7] rfl
      have hD9 := hD.sub (ws' := [(h0, .inr (13, moF a (upd (upd (upd f 4 (nI k)) 11 0) 110 0) w)), (a 5, .inl (cI, 6, .inl cf)), (a 6, .inl (cZ, 48, .inl rt)), (a 7, .inl (cJ, 48, .inr (.inl ti))), (a 8, .inl (cJ, 192, .inr (.inl rv))), (a 9, .inl (cZ, 192, .inl rn)), (a 12, .inl (cJ, 4, .inr (.inl dv))), (a 13, .inl (cZ, 4, .inl dn))]) [0, 1, 2, 3, 4, 5, 6, 7] (by decide) rfl
      have hK9 := hK.sub (tys' := [(cB, .byte), (cI, .int), (cJ, .long), (cZ, .boolean)]) [0, 1, 2, 3] rfl
      exact W.iret (v := (-1)) hx hb hr (fun t_ ht hW => ⟨⟨(-1), (), rfl, rfl, by rw [ht]; exact hP9, va_K.moved hW.alike hK9, hD9⟩, hS.F ht⟩) hS.2.2 dX12_row_40
    · skip
      exact absurd ho (not_or.mpr ⟨c_1, c_2⟩)
