theorem dX12_isWord_0 : decode cX12_isWord 0 = .ok (.aload_n 0, 1) := by decide +kernel
theorem dX12_isWord_1 : decode cX12_isWord 1 = .ok (.getfield 292, 3) := by decide +kernel
theorem dX12_isWord_4 : decode cX12_isWord 4 = .ok (.ifCond .eq 32, 3) := by decide +kernel
theorem dX12_isWord_7 : decode cX12_isWord 7 = .ok (.aload_n 0, 1) := by decide +kernel
theorem dX12_isWord_8 : decode cX12_isWord 8 = .ok (.getfield 40, 3) := by decide +kernel
theorem dX12_isWord_11 : decode cX12_isWord 11 = .ok (.aload_n 0, 1) := by decide +kernel
theorem dX12_isWord_12 : decode cX12_isWord 12 = .ok (.getfield 302, 3) := by decide +kernel
theorem dX12_isWord_15 : decode cX12_isWord 15 = .ok (.iaload, 1) := by decide +kernel
theorem dX12_isWord_16 : decode cX12_isWord 16 = .ok (.iconst 1, 1) := by decide +kernel
theorem dX12_isWord_17 : decode cX12_isWord 17 = .ok (.if_icmp .ne 19, 3) := by decide +kernel
theorem dX12_isWord_36 : decode cX12_isWord 36 = .ok (.iconst 0, 1) := by decide +kernel
theorem dX12_isWord_37 : decode cX12_isWord 37 = .ok (.ireturn, 1) := by decide +kernel
abbrev cs_t_X12_isWord_n (cB cI cJ cZ : ClassId) (h0 : Nat) (a : Nat → Nat) (f : Nat → Int32) (w : Int64) (x1 : Nat) (sf pf : Nat → Int32) (i : Nat) (K V : Nat → Nat) (fz : Value) : va_W := [(h0, .inr (13, moF a (upd f 18 (nI x1)) w)), (a 14, .inl (cI, 2001, .inl sf))]
abbrev pc_t_X12_isWord_n (dC : Nat → ClassId) (dI : Nat → Nat → Nat) (sz : Nat) (cB cI cJ cZ : ClassId) (h0 : Nat) (a : Nat → Nat) (f : Nat → Int32) (w : Int64) (x1 : Nat) (sf pf : Nat → Int32) (i : Nat) (K V : Nat → Nat) (fz : Value) : Array Value → State → Prop := va_Pc [.ref h0, .ref (K i)] (fun U => U.heap.size = sz ∧ va_P (dC, dI) vwCl [(h0, .inr (13, moF a (upd f 18 (nI x1)) w)), (a 14, .inl (cI, 2001, .inl sf))] U.heap ∧ va_K (dC, dI) vwCl [(cB, .byte), (cI, .int), (cJ, .long), (cZ, .boolean)] U ∧ va_D (fun _ => True) [(h0, .inr (13, moF a (upd f 18 (nI x1)) w)), (a 14, .inl (cI, 2001, .inl sf))] ∧ zE K V fz (va_A (cs_t_X12_isWord_n cB cI cJ cZ h0 a f w x1 sf pf i K V fz) sz) U)
abbrev qc_t_X12_isWord_n (dC : Nat → ClassId) (dI : Nat → Nat → Nat) (cB cI cJ cZ : ClassId) (h0 : Nat) (a : Nat → Nat) (f : Nat → Int32) (w : Int64) (x1 : Nat) (sf pf : Nat → Int32) (i : Nat) (K V : Nat → Nat) (fz : Value) (A : Nat → Prop) : Array Value → State → Outcome → State → Prop := va_Qi (fun (r : Int32) (u : Unit) => match u with | _ => r = 0) (fun (u : Unit) t_ => match u with | _ => va_P (dC, dI) vwCl [(h0, .inr (13, moF a (upd f 18 (nI x1)) w)), (a 14, .inl (cI, 2001, .inl sf))] t_.heap ∧ va_K (dC, dI) vwCl [(cB, .byte), (cI, .int), (cJ, .long), (cZ, .boolean)] t_ ∧ va_D A [(h0, .inr (13, moF a (upd f 18 (nI x1)) w)), (a 14, .inl (cI, 2001, .inl sf))]) A
set_option maxHeartbeats 4000000 in
set_option maxRecDepth 100000 in
theorem t_X12_isWord_n (l : Launch) (dC : Nat → ClassId) (dI : Nat → Nat → Nat) (sz : Nat) (cB cI cJ cZ : ClassId) (h0 : Nat) (a : Nat → Nat) (f : Nat → Int32) (w : Int64) (x1 : Nat) (sf pf : Nat → Int32) (i : Nat) (K V : Nat → Nat) (fz : Value) (hx1 : x1 ≤ 2000) (hnw : f 21 = 0 ∨ ¬ sf x1 = 1) : Met l yX12_isWord (wsOf yX12_isWord cX12_isWord 2 (some .boolean)) ({ frames := 0, cells := 0, slots := 0, locals := 0 }) (pc_t_X12_isWord_n dC dI sz cB cI cJ cZ h0 a f w x1 sf pf i K V fz) (qc_t_X12_isWord_n dC dI cB cI cJ cZ h0 a f w x1 sf pf i K V fz (va_A (cs_t_X12_isWord_n cB cI cJ cZ h0 a f w x1 sf pf i K V fz) sz)) 0 0 (va_A (cs_t_X12_isWord_n cB cI cJ cZ h0 a f w x1 sf pf i K V fz) sz) := by
  refine Met.ofW (cc := cX12_isWord) (maxL := 2) (ret := (some .boolean)) (by decide) rfl ?_
  intro p e s m args below meth c s₁ B hml hv
  obtain ⟨rfl, hsz, hP, hK, hD0, hZ⟩ := hv
  have hx := B.exec
  have hb := B.bytes
  have hr := B.returns
  have hts := atoms_spec (ws := (wsOf yX12_isWord cX12_isWord 2 (some .boolean))) B.pre
  have hown : s.vm.findClass RX12 = some m.cls := findClass_of_methodNamed B.named
  have hlocks := B.notSynchronized
  subst hsz
  have hD := hD0.self (sz := s.heap.size)
  generalize hAe : va_A (cs_t_X12_isWord_n cB cI cJ cZ h0 a f w x1 sf pf i K V fz) s.heap.size = A at hD hZ ⊢
  have hA : ∀ q : Nat, s.heap.size ≤ q → A q := fun q h => by rw [← hAe]; exact Or.inr h
  have hS : va_S A s.heap s.heap [] := va_S.rf
  have hP : va_P (dC, dI) vwCl [(h0, .inr (13, moF a (upd f 18 (nI x1)) w)), (a 14, .inl (cI, 2001, .inl sf))] s.heap := hP
  have hl := lv_entry ([.ref h0, .ref (K i)]) (n := 2) (Nat.le_of_ble_eq_true rfl)
  rw [lg_entry_eq]
  generalize (lg_sl ([.ref h0, .ref (K i)]) ++ List.replicate (2 - (lg_sl ([.ref h0, .ref (K i)])).length) Slot.unset).toArray = ls at hl ⊢
  have hl : lv_has ls 2 [(0, .ref h0), (1, .ref (K i))] := hl
  refine lv_aload_n hx hb dX12_isWord_0 rfl (lv_at hl 0 rfl) ?_
  refine va_get (D := (dC, dI)) (ci := 13) (v := .int (f 21)) (C := RX12) (T := TX12) (N := 115) hx hb hts (fun w h => List.mem_cons_of_mem _ (uG_X12 w h)) hown hK hP 0 rfl rfl 21 (by decide) (hts _ (List.mem_cons_of_mem _ kw_1712)) (fun _ h9 => h9) rfl dX12_isWord_1 ?_
  refine lv_if_eq (tgt := 36) hx hb dX12_isWord_4 (by decide) (fun c_1 => ?_) (fun c_1 => ?_)
  · skip
    refine lv_iconst (v := 0) hx hb dX12_isWord_36 (by decide) ?_
    have hP9 := hP.sub (ws' := [(h0, .inr (13, moF a (upd f 18 (nI x1)) w)), (a 14, .inl (cI, 2001, .inl sf))]) [0, 1] rfl
    have hD9 := hD.sub (ws' := [(h0, .inr (13, moF a (upd f 18 (nI x1)) w)), (a 14, .inl (cI, 2001, .inl sf))]) [0, 1] (by decide) rfl
    have hK9 := hK.sub (tys' := [(cB, .byte), (cI, .int), (cJ, .long), (cZ, .boolean)]) [0, 1, 2, 3] rfl
    exact W.zret (v := 0) hx hb hr (by rfl) (fun t_ ht hW => ⟨⟨0, (), rfl, rfl, by rw [ht]; exact hP9, va_K.moved hW.alike hK9, hD9⟩, hS.F ht⟩) hS.2.2 dX12_isWord_37
  · skip
    refine lv_aload_n hx hb dX12_isWord_7 rfl (lv_at hl 0 rfl) ?_
    refine va_get (D := (dC, dI)) (ci := 13) (v := .ref (a 14)) (C := RX12) (T := TX12) (N := 115) hx hb hts (fun w h => List.mem_cons_of_mem _ (uG_X12 w h)) hown hK hP 0 rfl rfl 14 (by decide) (hts _ (List.mem_cons_of_mem _ kw_1705)) (fun _ h9 => h9) rfl dX12_isWord_8 ?_
    refine lv_aload_n hx hb dX12_isWord_11 rfl (lv_at hl 0 rfl) ?_
    refine va_get (D := (dC, dI)) (ci := 13) (v := .int (nI x1)) (C := RX12) (T := TX12) (N := 115) hx hb hts (fun w h => List.mem_cons_of_mem _ (uG_X12 w h)) hown hK hP 0 rfl rfl 18 (by decide) (hts _ (List.mem_cons_of_mem _ kw_1709)) (fun _ h9 => h9) rfl dX12_isWord_12 ?_
    refine va_iald hx hb hK hP 1 1 rfl rfl (i := (nI x1)) (vp_in_nI (n := x1) (N := 2001) (by omega) (by omega)) dX12_isWord_15 ?_
    refine lv_topi (fun x_2 ex_2 => ?_)
    have ex_2 : x_2 = sf x1 := ex_2.trans (congrArg sf (nI_clamp (n := x1) (by omega)))
    subst ex_2
    refine lv_iconst (v := 1) hx hb dX12_isWord_16 (by decide) ?_
    refine lv_icmp_ne (tgt := 36) hx hb dX12_isWord_17 (by decide) (fun c_3 => ?_) (fun c_3 => ?_)
    · skip
      refine lv_iconst (v := 0) hx hb dX12_isWord_36 (by decide) ?_
      have hP9 := hP.sub (ws' := [(h0, .inr (13, moF a (upd f 18 (nI x1)) w)), (a 14, .inl (cI, 2001, .inl sf))]) [0, 1] rfl
      have hD9 := hD.sub (ws' := [(h0, .inr (13, moF a (upd f 18 (nI x1)) w)), (a 14, .inl (cI, 2001, .inl sf))]) [0, 1] (by decide) rfl
      have hK9 := hK.sub (tys' := [(cB, .byte), (cI, .int), (cJ, .long), (cZ, .boolean)]) [0, 1, 2, 3] rfl
      exact W.zret (v := 0) hx hb hr (by rfl) (fun t_ ht hW => ⟨⟨0, (), rfl, rfl, by rw [ht]; exact hP9, va_K.moved hW.alike hK9, hD9⟩, hS.F ht⟩) hS.2.2 dX12_isWord_37
    · skip
      exact absurd hnw (not_or.mpr ⟨c_1, fun h9 => h9 c_3⟩)
theorem dX12_takeWord_0 : decode cX12_takeWord 0 = .ok (.aload_n 0, 1) := by decide +kernel
theorem dX12_takeWord_1 : decode cX12_takeWord 1 = .ok (.aload_n 1, 1) := by decide +kernel
theorem dX12_takeWord_2 : decode cX12_takeWord 2 = .ok (.invokevirtual 322, 3) := by decide +kernel
theorem dX12_takeWord_5 : decode cX12_takeWord 5 = .ok (.istore_n 2, 1) := by decide +kernel
theorem dX12_takeWord_6 : decode cX12_takeWord 6 = .ok (.aload_n 0, 1) := by decide +kernel
theorem dX12_takeWord_7 : decode cX12_takeWord 7 = .ok (.dup, 1) := by decide +kernel
theorem dX12_takeWord_8 : decode cX12_takeWord 8 = .ok (.getfield 302, 3) := by decide +kernel
theorem dX12_takeWord_11 : decode cX12_takeWord 11 = .ok (.iload_n 2, 1) := by decide +kernel
theorem dX12_takeWord_12 : decode cX12_takeWord 12 = .ok (.ifCond .eq 7, 3) := by decide +kernel
theorem dX12_takeWord_19 : decode cX12_takeWord 19 = .ok (.iconst 0, 1) := by decide +kernel
theorem dX12_takeWord_20 : decode cX12_takeWord 20 = .ok (.iadd, 1) := by decide +kernel
theorem dX12_takeWord_21 : decode cX12_takeWord 21 = .ok (.putfield 302, 3) := by decide +kernel
theorem dX12_takeWord_24 : decode cX12_takeWord 24 = .ok (.iload_n 2, 1) := by decide +kernel
theorem dX12_takeWord_25 : decode cX12_takeWord 25 = .ok (.ireturn, 1) := by decide +kernel
abbrev cs_t_X12_takeWord_n (cB cI cJ cZ : ClassId) (h0 : Nat) (a : Nat → Nat) (f : Nat → Int32) (w : Int64) (x1 : Nat) (sf pf : Nat → Int32) (i : Nat) (K V : Nat → Nat) (fz : Value) : va_W := [(h0, .inr (13, moF a (upd f 18 (nI x1)) w)), (a 14, .inl (cI, 2001, .inl sf))]
abbrev pc_t_X12_takeWord_n (dC : Nat → ClassId) (dI : Nat → Nat → Nat) (sz : Nat) (cB cI cJ cZ : ClassId) (h0 : Nat) (a : Nat → Nat) (f : Nat → Int32) (w : Int64) (x1 : Nat) (sf pf : Nat → Int32) (i : Nat) (K V : Nat → Nat) (fz : Value) : Array Value → State → Prop := va_Pc [.ref h0, .ref (K i)] (fun U => U.heap.size = sz ∧ va_P (dC, dI) vwCl [(h0, .inr (13, moF a (upd f 18 (nI x1)) w)), (a 14, .inl (cI, 2001, .inl sf))] U.heap ∧ va_K (dC, dI) vwCl [(cB, .byte), (cI, .int), (cJ, .long), (cZ, .boolean)] U ∧ va_D (fun _ => True) [(h0, .inr (13, moF a (upd f 18 (nI x1)) w)), (a 14, .inl (cI, 2001, .inl sf))] ∧ zE K V fz (va_A (cs_t_X12_takeWord_n cB cI cJ cZ h0 a f w x1 sf pf i K V fz) sz) U)
abbrev qc_t_X12_takeWord_n (dC : Nat → ClassId) (dI : Nat → Nat → Nat) (cB cI cJ cZ : ClassId) (h0 : Nat) (a : Nat → Nat) (f : Nat → Int32) (w : Int64) (x1 : Nat) (sf pf : Nat → Int32) (i : Nat) (K V : Nat → Nat) (fz : Value) (A : Nat → Prop) : Array Value → State → Outcome → State → Prop := va_Qi (fun (r : Int32) (u : Unit) => match u with | _ => r = 0) (fun (u : Unit) t_ => match u with | _ => va_P (dC, dI) vwCl [(h0, .inr (13, moF a (upd f 18 (nI x1)) w)), (a 14, .inl (cI, 2001, .inl sf))] t_.heap ∧ va_K (dC, dI) vwCl [(cB, .byte), (cI, .int), (cJ, .long), (cZ, .boolean)] t_ ∧ va_D A [(h0, .inr (13, moF a (upd f 18 (nI x1)) w)), (a 14, .inl (cI, 2001, .inl sf))]) A
set_option maxHeartbeats 4000000 in
set_option maxRecDepth 100000 in
theorem t_X12_takeWord_n (l : Launch) (dC : Nat → ClassId) (dI : Nat → Nat → Nat) (sz : Nat) (cB cI cJ cZ : ClassId) (h0 : Nat) (a : Nat → Nat) (f : Nat → Int32) (w : Int64) (x1 : Nat) (sf pf : Nat → Int32) (i : Nat) (K V : Nat → Nat) (fz : Value) (hx1 : x1 ≤ 2000) (hnw : f 21 = 0 ∨ ¬ sf x1 = 1) : Met l yX12_takeWord (wsOf yX12_takeWord cX12_takeWord 3 (some .boolean)) ({ frames := 1, cells := 0, slots := 0, locals := 60 }) (pc_t_X12_takeWord_n dC dI sz cB cI cJ cZ h0 a f w x1 sf pf i K V fz) (qc_t_X12_takeWord_n dC dI cB cI cJ cZ h0 a f w x1 sf pf i K V fz (va_A (cs_t_X12_takeWord_n cB cI cJ cZ h0 a f w x1 sf pf i K V fz) sz)) 0 0 (va_A (cs_t_X12_takeWord_n cB cI cJ cZ h0 a f w x1 sf pf i K V fz) sz) := by
  refine Met.ofW (cc := cX12_takeWord) (maxL := 3) (ret := (some .boolean)) (by decide) rfl ?_
  intro p e s m args below meth c s₁ B hml hv
  obtain ⟨rfl, hsz, hP, hK, hD0, hZ⟩ := hv
  have hx := B.exec
  have hb := B.bytes
  have hr := B.returns
  have hts := atoms_spec (ws := (wsOf yX12_takeWord cX12_takeWord 3 (some .boolean))) B.pre
  have hown : s.vm.findClass RX12 = some m.cls := findClass_of_methodNamed B.named
  have hlocks := B.notSynchronized
  subst hsz
  have hD := hD0.self (sz := s.heap.size)
  generalize hAe : va_A (cs_t_X12_takeWord_n cB cI cJ cZ h0 a f w x1 sf pf i K V fz) s.heap.size = A at hD hZ ⊢
  have hA : ∀ q : Nat, s.heap.size ≤ q → A q := fun q h => by rw [← hAe]; exact Or.inr h
  have hS : va_S A s.heap s.heap [] := va_S.rf
  have hP : va_P (dC, dI) vwCl [(h0, .inr (13, moF a (upd f 18 (nI x1)) w)), (a 14, .inl (cI, 2001, .inl sf))] s.heap := hP
  have hl := lv_entry ([.ref h0, .ref (K i)]) (n := 3) (Nat.le_of_ble_eq_true rfl)
  rw [lg_entry_eq]
  generalize (lg_sl ([.ref h0, .ref (K i)]) ++ List.replicate (3 - (lg_sl ([.ref h0, .ref (K i)])).length) Slot.unset).toArray = ls at hl ⊢
  have hl : lv_has ls 3 [(0, .ref h0), (1, .ref (K i))] := hl
  refine lv_aload_n hx hb dX12_takeWord_0 rfl (lv_at hl 0 rfl) ?_
  refine lv_aload_n hx hb dX12_takeWord_1 rfl (lv_at hl 1 rfl) ?_
  have hPc := hP.sub (ws' := [(h0, .inr (13, moF a (upd f 18 (nI x1)) w)), (a 14, .inl (cI, 2001, .inl sf))]) [0, 1] rfl
  have hDc := hD.sub (ws' := [(h0, .inr (13, moF a (upd f 18 (nI x1)) w)), (a 14, .inl (cI, 2001, .inl sf))]) [0, 1] (by decide) rfl
  have hKc := hK.sub (tys' := [(cB, .byte), (cI, .int), (cJ, .long), (cZ, .boolean)]) [0, 1, 2, 3] rfl
  have hFc := va_free (wc := [(h0, .inr (13, moF a (upd f 18 (nI x1)) w)), (a 14, .inl (cI, 2001, .inl sf))]) hD hS hA [0, 1] rfl
  refine va_calli (va_runV (As := [.ref (K i)]) (rest := []) ⟨hx, hb, hml, hown, hts⟩ (t_X12_isWord_n l dC dI s.heap.size cB cI cJ cZ h0 a (upd f 18 (nI x1)) w x1 sf pf i K V fz hx1 hnw) (cwV 1 hts (gd_all (in_V kw_2242 kw_2244 kw_135 kw_191 kc_X12_isWord)) rfl rfl rfl (by decide +kernel) ⟨Nat.le_of_ble_eq_true rfl, Nat.le_of_ble_eq_true rfl⟩) ⟨fun a U g mk q => by obtain ⟨q0, q1, qP, qK, qD, qZ⟩ := q; exact ⟨q0, q1, qP, va_K.moved (u := U) (U := U.calling g mk a) (Vm.Alike.refl U.vm) qK, qD, zE.same (u := U) (U := U.calling g mk a) rfl rfl qZ⟩, va_recv hKc hPc (ci := 13) (q0 := 0) rfl rfl, fun U hU hW => ⟨rfl, by rw [hU], by rw [hU]; exact hPc, va_K.moved hW.alike hKc, hDc.weaken (fun _ _ _ _ => trivial), zE.go hZ hS hU hW hFc⟩⟩ rfl rfl hl.1 rfl (lv_room (Nat.le_of_ble_eq_true rfl)) dX12_takeWord_2 ⟨Nat.le_of_ble_eq_true rfl, Nat.le_of_ble_eq_true rfl⟩) hS (fun q _ h => hFc q h) hFc (fun r_1 u t_ H1 locs ht hvm hw hB hz1 hk1 hS => ?_)
  obtain ⟨hP1, hK1, hD1⟩ := hB
  rw [ht] at hP1
  have hK1 := va_K.moved hvm.symm hK1
  obtain ⟨hP, hD⟩ := va_join (wr := []) (w1 := [(h0, .inr (13, moF a (upd f 18 (nI x1)) w)), (a 14, .inl (cI, 2001, .inl sf))]) hP hD [0, 1] [] rfl rfl (by decide) (by decide) hk1 hFc hP1 hD1
  have hK := (hK.sub (tys' := []) [] rfl).app hK1
  generalize H1 = H at hP hS ⊢
  have hP : va_P (dC, dI) vwCl [(h0, .inr (13, moF a (upd f 18 (nI x1)) w)), (a 14, .inl (cI, 2001, .inl sf))] H := hP
  have hD : va_D A [(h0, .inr (13, moF a (upd f 18 (nI x1)) w)), (a 14, .inl (cI, 2001, .inl sf))] := hD
  have hK : va_K (dC, dI) vwCl [(cB, .byte), (cI, .int), (cJ, .long), (cZ, .boolean)] s := hK
  have er_1 : r_1 = 0 := hw
  rw [er_1]
  refine lv_istore_n (lv' := [(2, .int 0), (0, .ref h0), (1, .ref (K i))]) hx hb dX12_takeWord_5 rfl hl (by decide) rfl (fun ls hl => ?_)
  refine lv_aload_n hx hb dX12_takeWord_6 rfl (lv_at hl 1 rfl) ?_
  refine lv_dup hx hb dX12_takeWord_7 rfl ?_
  refine va_get (D := (dC, dI)) (ci := 13) (v := .int (nI x1)) (C := RX12) (T := TX12) (N := 115) hx hb hts (fun w h => List.mem_cons_of_mem _ (uG_X12 w h)) hown hK hP 0 rfl rfl 18 (by decide) (hts _ (List.mem_cons_of_mem _ kw_1709)) (fun _ h9 => h9) rfl dX12_takeWord_8 ?_
  refine lv_iload_n hx hb dX12_takeWord_11 rfl (lv_at hl 0 rfl) ?_
  refine lv_if_eq (tgt := 19) hx hb dX12_takeWord_12 (by decide) (fun c_2 => ?_) (fun c_2 => ?_)
  · skip
    refine lv_iconst (v := 0) hx hb dX12_takeWord_19 (by decide) ?_
    refine lv_iadd hx hb dX12_takeWord_20 ?_
    refine lv_topi (fun x_3 ex_3 => ?_)
    have ex_3 : x_3 = nI (x1 + 0) := ex_3.trans (nI_add x1 0)
    subst ex_3
    refine va_put (D := (dC, dI)) (ci := 13) (v := .int (nI (x1 + 0))) (ty := .int) (C := RX12) (T := TX12) (N := 115) hx hb hts (fun w h => List.mem_cons_of_mem _ (uG_X12 w h)) tyX12 tyX12_ok nmX12 hown hK hP hD hS 0 rfl rfl 18 (by decide) (hts _ (List.mem_cons_of_mem _ kw_1709)) (fun _ h9 => h9) rfl (by decide +kernel) rfl rfl (Nat.le_of_ble_eq_true rfl) dX12_takeWord_21 (fun H locs hP hD hS => ?_)
    have hP : va_P (dC, dI) vwCl [(h0, .inr (13, moF a (upd f 18 (nI (x1 + 0))) w)), (a 14, .inl (cI, 2001, .inl sf))] H := hP
    have hD : va_D A [(h0, .inr (13, moF a (upd f 18 (nI (x1 + 0))) w)), (a 14, .inl (cI, 2001, .inl sf))] := hD
    refine lv_iload_n hx hb dX12_takeWord_24 rfl (lv_at hl 0 rfl) ?_
    have hP9 := hP.sub (ws' := [(h0, .inr (13, moF a (upd f 18 (nI (x1 + 0))) w)), (a 14, .inl (cI, 2001, .inl sf))]) [0, 1] rfl
    have hD9 := hD.sub (ws' := [(h0, .inr (13, moF a (upd f 18 (nI (x1 + 0))) w)), (a 14, .inl (cI, 2001, .inl sf))]) [0, 1] (by decide) rfl
    have hK9 := hK.sub (tys' := [(cB, .byte), (cI, .int), (cJ, .long), (cZ, .boolean)]) [0, 1, 2, 3] rfl
    exact W.zret (v := 0) hx hb hr (by rfl) (fun t_ ht hW => ⟨⟨0, (), rfl, rfl, by rw [ht]; exact hP9, va_K.moved hW.alike hK9, hD9⟩, hS.F ht⟩) hS.2.2 dX12_takeWord_25
  · skip
    exact absurd c_2 (by decide)
theorem dX12_needWord_0 : decode cX12_needWord 0 = .ok (.aload_n 0, 1) := by decide +kernel
theorem dX12_needWord_1 : decode cX12_needWord 1 = .ok (.aload_n 1, 1) := by decide +kernel
theorem dX12_needWord_2 : decode cX12_needWord 2 = .ok (.invokevirtual 326, 3) := by decide +kernel
theorem dX12_needWord_5 : decode cX12_needWord 5 = .ok (.ifCond .ne 7, 3) := by decide +kernel
theorem dX12_needWord_8 : decode cX12_needWord 8 = .ok (.aload_n 0, 1) := by decide +kernel
theorem dX12_needWord_9 : decode cX12_needWord 9 = .ok (.invokevirtual 329, 3) := by decide +kernel
theorem dX12_needWord_12 : decode cX12_needWord 12 = .ok (.return_, 1) := by decide +kernel
abbrev cs_t_X12_needWord_1 (cB cI cJ cZ : ClassId) (h0 : Nat) (a : Nat → Nat) (f : Nat → Int32) (w : Int64) (x1 : Nat) (sf pf : Nat → Int32) (i : Nat) (K V : Nat → Nat) (fz : Value) : va_W := [(h0, .inr (13, moF a (upd f 18 (nI x1)) w)), (a 14, .inl (cI, 2001, .inl sf)), (a 15, .inl (cI, 2001, .inl pf))]
abbrev pc_t_X12_needWord_1 (dC : Nat → ClassId) (dI : Nat → Nat → Nat) (sz : Nat) (cB cI cJ cZ : ClassId) (h0 : Nat) (a : Nat → Nat) (f : Nat → Int32) (w : Int64) (x1 : Nat) (sf pf : Nat → Int32) (i : Nat) (K V : Nat → Nat) (fz : Value) : Array Value → State → Prop := va_Pc [.ref h0, .ref (K i)] (fun U => U.heap.size = sz ∧ va_P (dC, dI) vwCl [(h0, .inr (13, moF a (upd f 18 (nI x1)) w)), (a 14, .inl (cI, 2001, .inl sf)), (a 15, .inl (cI, 2001, .inl pf))] U.heap ∧ va_K (dC, dI) vwCl [(cB, .byte), (cI, .int), (cJ, .long), (cZ, .boolean)] U ∧ va_D (fun _ => True) [(h0, .inr (13, moF a (upd f 18 (nI x1)) w)), (a 14, .inl (cI, 2001, .inl sf)), (a 15, .inl (cI, 2001, .inl pf))] ∧ zE K V fz (va_A (cs_t_X12_needWord_1 cB cI cJ cZ h0 a f w x1 sf pf i K V fz) sz) U)
abbrev qc_t_X12_needWord_1 (dC : Nat → ClassId) (dI : Nat → Nat → Nat) (cB cI cJ cZ : ClassId) (h0 : Nat) (a : Nat → Nat) (f : Nat → Int32) (w : Int64) (x1 : Nat) (sf pf : Nat → Int32) (i : Nat) (K V : Nat → Nat) (fz : Value) (A : Nat → Prop) : Array Value → State → Outcome → State → Prop := va_Qv (fun (u : Unit) => match u with | _ => True) (fun (u : Unit) t_ => match u with | _ => va_P (dC, dI) vwCl [(h0, .inr (13, moF a (upd (upd (upd (upd f 18 (nI x1)) 21 0) 19 1) 20 (pf x1)) w)), (a 14, .inl (cI, 2001, .inl sf)), (a 15, .inl (cI, 2001, .inl pf))] t_.heap ∧ va_K (dC, dI) vwCl [(cB, .byte), (cI, .int), (cJ, .long), (cZ, .boolean)] t_ ∧ va_D A [(h0, .inr (13, moF a (upd (upd (upd (upd f 18 (nI x1)) 21 0) 19 1) 20 (pf x1)) w)), (a 14, .inl (cI, 2001, .inl sf)), (a 15, .inl (cI, 2001, .inl pf))]) A
set_option maxHeartbeats 4000000 in
set_option maxRecDepth 100000 in
theorem t_X12_needWord_1 (l : Launch) (dC : Nat → ClassId) (dI : Nat → Nat → Nat) (sz : Nat) (cB cI cJ cZ : ClassId) (h0 : Nat) (a : Nat → Nat) (f : Nat → Int32) (w : Int64) (x1 : Nat) (sf pf : Nat → Int32) (i : Nat) (K V : Nat → Nat) (fz : Value) (hx1 : x1 ≤ 2000) (hg : ¬ f 21 = 0) (hnw : f 21 = 0 ∨ ¬ sf x1 = 1) : Met l yX12_needWord (wsOf yX12_needWord cX12_needWord 2 none) ({ frames := 2, cells := 0, slots := 0, locals := 120 }) (pc_t_X12_needWord_1 dC dI sz cB cI cJ cZ h0 a f w x1 sf pf i K V fz) (qc_t_X12_needWord_1 dC dI cB cI cJ cZ h0 a f w x1 sf pf i K V fz (va_A (cs_t_X12_needWord_1 cB cI cJ cZ h0 a f w x1 sf pf i K V fz) sz)) 0 0 (va_A (cs_t_X12_needWord_1 cB cI cJ cZ h0 a f w x1 sf pf i K V fz) sz) := by
  refine Met.ofW (cc := cX12_needWord) (maxL := 2) (ret := none) (by decide) rfl ?_
  intro p e s m args below meth c s₁ B hml hv
  obtain ⟨rfl, hsz, hP, hK, hD0, hZ⟩ := hv
  have hx := B.exec
  have hb := B.bytes
  have hr := B.returns
  have hts := atoms_spec (ws := (wsOf yX12_needWord cX12_needWord 2 none)) B.pre
  have hown : s.vm.findClass RX12 = some m.cls := findClass_of_methodNamed B.named
  have hlocks := B.notSynchronized
  subst hsz
  have hD := hD0.self (sz := s.heap.size)
  generalize hAe : va_A (cs_t_X12_needWord_1 cB cI cJ cZ h0 a f w x1 sf pf i K V fz) s.heap.size = A at hD hZ ⊢
  have hA : ∀ q : Nat, s.heap.size ≤ q → A q := fun q h => by rw [← hAe]; exact Or.inr h
  have hS : va_S A s.heap s.heap [] := va_S.rf
  have hP : va_P (dC, dI) vwCl [(h0, .inr (13, moF a (upd f 18 (nI x1)) w)), (a 14, .inl (cI, 2001, .inl sf)), (a 15, .inl (cI, 2001, .inl pf))] s.heap := hP
  have hl := lv_entry ([.ref h0, .ref (K i)]) (n := 2) (Nat.le_of_ble_eq_true rfl)
  rw [lg_entry_eq]
  generalize (lg_sl ([.ref h0, .ref (K i)]) ++ List.replicate (2 - (lg_sl ([.ref h0, .ref (K i)])).length) Slot.unset).toArray = ls at hl ⊢
  have hl : lv_has ls 2 [(0, .ref h0), (1, .ref (K i))] := hl
  refine lv_aload_n hx hb dX12_needWord_0 rfl (lv_at hl 0 rfl) ?_
  refine lv_aload_n hx hb dX12_needWord_1 rfl (lv_at hl 1 rfl) ?_
  have hPc := hP.sub (ws' := [(h0, .inr (13, moF a (upd f 18 (nI x1)) w)), (a 14, .inl (cI, 2001, .inl sf))]) [0, 1] rfl
  have hDc := hD.sub (ws' := [(h0, .inr (13, moF a (upd f 18 (nI x1)) w)), (a 14, .inl (cI, 2001, .inl sf))]) [0, 1] (by decide) rfl
  have hKc := hK.sub (tys' := [(cB, .byte), (cI, .int), (cJ, .long), (cZ, .boolean)]) [0, 1, 2, 3] rfl
  have hFc := va_free (wc := [(h0, .inr (13, moF a (upd f 18 (nI x1)) w)), (a 14, .inl (cI, 2001, .inl sf))]) hD hS hA [0, 1] rfl
  refine va_calli (va_runV (As := [.ref (K i)]) (rest := []) ⟨hx, hb, hml, hown, hts⟩ (t_X12_takeWord_n l dC dI s.heap.size cB cI cJ cZ h0 a (upd f 18 (nI x1)) w x1 sf pf i K V fz hx1 hnw) (cwV 1 hts (gd_all (in_V kw_2238 kw_2240 kw_134 kw_191 kc_X12_takeWord)) rfl rfl rfl (by decide +kernel) ⟨Nat.le_of_ble_eq_true rfl, Nat.le_of_ble_eq_true rfl⟩) ⟨fun a U g mk q => by obtain ⟨q0, q1, qP, qK, qD, qZ⟩ := q; exact ⟨q0, q1, qP, va_K.moved (u := U) (U := U.calling g mk a) (Vm.Alike.refl U.vm) qK, qD, zE.same (u := U) (U := U.calling g mk a) rfl rfl qZ⟩, va_recv hKc hPc (ci := 13) (q0 := 0) rfl rfl, fun U hU hW => ⟨rfl, by rw [hU], by rw [hU]; exact hPc, va_K.moved hW.alike hKc, hDc.weaken (fun _ _ _ _ => trivial), zE.go hZ hS hU hW hFc⟩⟩ rfl rfl hl.1 rfl (lv_room (Nat.le_of_ble_eq_true rfl)) dX12_needWord_2 ⟨Nat.le_of_ble_eq_true rfl, Nat.le_of_ble_eq_true rfl⟩) hS (fun q _ h => hFc q h) hFc (fun r_1 u t_ H1 locs ht hvm hw hB hz1 hk1 hS => ?_)
  obtain ⟨hP1, hK1, hD1⟩ := hB
  rw [ht] at hP1
  have hK1 := va_K.moved hvm.symm hK1
  obtain ⟨hP, hD⟩ := va_join (wr := [(a 15, .inl (cI, 2001, .inl pf))]) (w1 := [(h0, .inr (13, moF a (upd f 18 (nI x1)) w)), (a 14, .inl (cI, 2001, .inl sf))]) hP hD [0, 1] [2] rfl rfl (by decide) (by decide) hk1 hFc hP1 hD1
  have hK := (hK.sub (tys' := []) [] rfl).app hK1
  generalize H1 = H at hP hS ⊢
  have hP : va_P (dC, dI) vwCl [(a 15, .inl (cI, 2001, .inl pf)), (h0, .inr (13, moF a (upd f 18 (nI x1)) w)), (a 14, .inl (cI, 2001, .inl sf))] H := hP
  have hD : va_D A [(a 15, .inl (cI, 2001, .inl pf)), (h0, .inr (13, moF a (upd f 18 (nI x1)) w)), (a 14, .inl (cI, 2001, .inl sf))] := hD
  have hK : va_K (dC, dI) vwCl [(cB, .byte), (cI, .int), (cJ, .long), (cZ, .boolean)] s := hK
  have er_1 : r_1 = 0 := hw
  rw [er_1]
  refine lv_if_ne (tgt := 12) hx hb dX12_needWord_5 (by decide) (fun c_2 => ?_) (fun c_2 => ?_)
  · skip
    exact absurd c_2 (by decide)
  · skip
    refine lv_aload_n hx hb dX12_needWord_8 rfl (lv_at hl 0 rfl) ?_
    have hPc := hP.sub (ws' := [(h0, .inr (13, moF a (upd f 18 (nI x1)) w)), (a 14, .inl (cI, 2001, .inl sf)), (a 15, .inl (cI, 2001, .inl pf))]) [1, 2, 0] rfl
    have hDc := hD.sub (ws' := [(h0, .inr (13, moF a (upd f 18 (nI x1)) w)), (a 14, .inl (cI, 2001, .inl sf)), (a 15, .inl (cI, 2001, .inl pf))]) [1, 2, 0] (by decide) rfl
    have hKc := hK.sub (tys' := [(cB, .byte), (cI, .int), (cJ, .long), (cZ, .boolean)]) [0, 1, 2, 3] rfl
    have hFc := va_free (wc := [(h0, .inr (13, moF a (upd f 18 (nI x1)) w)), (a 14, .inl (cI, 2001, .inl sf)), (a 15, .inl (cI, 2001, .inl pf))]) hD hS hA [1, 2, 0] rfl
    refine va_callv (va_runV (As := []) (rest := []) ⟨hx, hb, hml, hown, hts⟩ (t_X12_wrong_1 l dC dI H.size cB cI cJ cZ h0 a (upd f 18 (nI x1)) w x1 sf pf hx1 hg) (cwV 0 hts (gd_all (in_V kw_2265 kw_2267 kw_140 kw_191 kc_X12_wrong)) rfl rfl rfl (by decide +kernel) ⟨Nat.le_of_ble_eq_true rfl, Nat.le_of_ble_eq_true rfl⟩) ⟨fun a U g mk q => by obtain ⟨q0, q1, qP, qK, qD⟩ := q; exact ⟨q0, q1, qP, va_K.moved (u := U) (U := U.calling g mk a) (Vm.Alike.refl U.vm) qK, qD⟩, va_recv hKc hPc (ci := 13) (q0 := 0) rfl rfl, fun U hU hW => ⟨rfl, by rw [hU], by rw [hU]; exact hPc, va_K.moved hW.alike hKc, hDc.weaken (fun _ _ _ _ => trivial)⟩⟩ rfl rfl hl.1 rfl (lv_room (Nat.le_of_ble_eq_true rfl)) dX12_needWord_9 ⟨Nat.le_of_ble_eq_true rfl, Nat.le_of_ble_eq_true rfl⟩) hS (fun q _ h => hFc q h) hFc (fun u t_ H1 locs ht hvm hw hB hz1 hk1 hS => ?_)
    obtain ⟨hP1, hK1, hD1⟩ := hB
    rw [ht] at hP1
    have hK1 := va_K.moved hvm.symm hK1
    obtain ⟨hP, hD⟩ := va_join (wr := []) (w1 := [(h0, .inr (13, moF a (upd (upd (upd (upd f 18 (nI x1)) 21 0) 19 1) 20 (pf x1)) w)), (a 14, .inl (cI, 2001, .inl sf)), (a 15, .inl (cI, 2001, .inl pf))]) hP hD [1, 2, 0] [] rfl rfl (by decide) (by decide) hk1 hFc hP1 hD1
    have hK := (hK.sub (tys' := []) [] rfl).app hK1
    generalize H1 = H at hP hS ⊢
    have hP : va_P (dC, dI) vwCl [(h0, .inr (13, moF a (upd (upd (upd (upd f 18 (nI x1)) 21 0) 19 1) 20 (pf x1)) w)), (a 14, .inl (cI, 2001, .inl sf)), (a 15, .inl (cI, 2001, .inl pf))] H := hP
    have hD : va_D A [(h0, .inr (13, moF a (upd (upd (upd (upd f 18 (nI x1)) 21 0) 19 1) 20 (pf x1)) w)), (a 14, .inl (cI, 2001, .inl sf)), (a 15, .inl (cI, 2001, .inl pf))] := hD
    have hK : va_K (dC, dI) vwCl [(cB, .byte), (cI, .int), (cJ, .long), (cZ, .boolean)] s := hK
    have hP9 := hP.sub (ws' := [(h0, .inr (13, moF a (upd (upd (upd (upd f 18 (nI x1)) 21 0) 19 1) 20 (pf x1)) w)), (a 14, .inl (cI, 2001, .inl sf)), (a 15, .inl (cI, 2001, .inl pf))]) [0, 1, 2] rfl
    have hD9 := hD.sub (ws' := [(h0, .inr (13, moF a (upd (upd (upd (upd f 18 (nI x1)) 21 0) 19 1) 20 (pf x1)) w)), (a 14, .inl (cI, 2001, .inl sf)), (a 15, .inl (cI, 2001, .inl pf))]) [0, 1, 2] (by decide) rfl
    have hK9 := hK.sub (tys' := [(cB, .byte), (cI, .int), (cJ, .long), (cZ, .boolean)]) [0, 1, 2, 3] rfl
    exact W.vret hx hb hr (fun t_ ht hW => ⟨⟨(), rfl, trivial, by rw [ht]; exact hP9, va_K.moved hW.alike hK9, hD9⟩, hS.F ht⟩) hS.2.2 dX12_needWord_12
abbrev cs_t_X12_needWord_0 (cB cI cJ cZ : ClassId) (h0 : Nat) (a : Nat → Nat) (f : Nat → Int32) (w : Int64) (x1 : Nat) (sf pf : Nat → Int32) (i : Nat) (K V : Nat → Nat) (fz : Value) : va_W := [(h0, .inr (13, moF a (upd f 18 (nI x1)) w)), (a 14, .inl (cI, 2001, .inl sf)), (a 15, .inl (cI, 2001, .inl pf))]
abbrev pc_t_X12_needWord_0 (dC : Nat → ClassId) (dI : Nat → Nat → Nat) (sz : Nat) (cB cI cJ cZ : ClassId) (h0 : Nat) (a : Nat → Nat) (f : Nat → Int32) (w : Int64) (x1 : Nat) (sf pf : Nat → Int32) (i : Nat) (K V : Nat → Nat) (fz : Value) : Array Value → State → Prop := va_Pc [.ref h0, .ref (K i)] (fun U => U.heap.size = sz ∧ va_P (dC, dI) vwCl [(h0, .inr (13, moF a (upd f 18 (nI x1)) w)), (a 14, .inl (cI, 2001, .inl sf)), (a 15, .inl (cI, 2001, .inl pf))] U.heap ∧ va_K (dC, dI) vwCl [(cB, .byte), (cI, .int), (cJ, .long), (cZ, .boolean)] U ∧ va_D (fun _ => True) [(h0, .inr (13, moF a (upd f 18 (nI x1)) w)), (a 14, .inl (cI, 2001, .inl sf)), (a 15, .inl (cI, 2001, .inl pf))] ∧ zE K V fz (va_A (cs_t_X12_needWord_0 cB cI cJ cZ h0 a f w x1 sf pf i K V fz) sz) U)
abbrev qc_t_X12_needWord_0 (dC : Nat → ClassId) (dI : Nat → Nat → Nat) (cB cI cJ cZ : ClassId) (h0 : Nat) (a : Nat → Nat) (f : Nat → Int32) (w : Int64) (x1 : Nat) (sf pf : Nat → Int32) (i : Nat) (K V : Nat → Nat) (fz : Value) (A : Nat → Prop) : Array Value → State → Outcome → State → Prop := va_Qv (fun (u : Unit) => match u with | _ => True) (fun (u : Unit) t_ => match u with | _ => va_P (dC, dI) vwCl [(h0, .inr (13, moF a (upd f 18 (nI x1)) w)), (a 14, .inl (cI, 2001, .inl sf)), (a 15, .inl (cI, 2001, .inl pf))] t_.heap ∧ va_K (dC, dI) vwCl [(cB, .byte), (cI, .int), (cJ, .long), (cZ, .boolean)] t_ ∧ va_D A [(h0, .inr (13, moF a (upd f 18 (nI x1)) w)), (a 14, .inl (cI, 2001, .inl sf)), (a 15, .inl (cI, 2001, .inl pf))]) A
set_option maxHeartbeats 4000000 in
set_option maxRecDepth 100000 in
theorem t_X12_needWord_0 (l : Launch) (dC : Nat → ClassId) (dI : Nat → Nat → Nat) (sz : Nat) (cB cI cJ cZ : ClassId) (h0 : Nat) (a : Nat → Nat) (f : Nat → Int32) (w : Int64) (x1 : Nat) (sf pf : Nat → Int32) (i : Nat) (K V : Nat → Nat) (fz : Value) (hx1 : x1 ≤ 2000) (hg : f 21 = 0) : Met l yX12_needWord (wsOf yX12_needWord cX12_needWord 2 none) ({ frames := 2, cells := 0, slots := 0, locals := 120 }) (pc_t_X12_needWord_0 dC dI sz cB cI cJ cZ h0 a f w x1 sf pf i K V fz) (qc_t_X12_needWord_0 dC dI cB cI cJ cZ h0 a f w x1 sf pf i K V fz (va_A (cs_t_X12_needWord_0 cB cI cJ cZ h0 a f w x1 sf pf i K V fz) sz)) 0 0 (va_A (cs_t_X12_needWord_0 cB cI cJ cZ h0 a f w x1 sf pf i K V fz) sz) := by
  refine Met.ofW (cc := cX12_needWord) (maxL := 2) (ret := none) (by decide) rfl ?_
  intro p e s m args below meth c s₁ B hml hv
  obtain ⟨rfl, hsz, hP, hK, hD0, hZ⟩ := hv
  have hx := B.exec
  have hb := B.bytes
  have hr := B.returns
  have hts := atoms_spec (ws := (wsOf yX12_needWord cX12_needWord 2 none)) B.pre
  have hown : s.vm.findClass RX12 = some m.cls := findClass_of_methodNamed B.named
  have hlocks := B.notSynchronized
  subst hsz
  have hD := hD0.self (sz := s.heap.size)
  generalize hAe : va_A (cs_t_X12_needWord_0 cB cI cJ cZ h0 a f w x1 sf pf i K V fz) s.heap.size = A at hD hZ ⊢
  have hA : ∀ q : Nat, s.heap.size ≤ q → A q := fun q h => by rw [← hAe]; exact Or.inr h
  have hS : va_S A s.heap s.heap [] := va_S.rf
  have hP : va_P (dC, dI) vwCl [(h0, .inr (13, moF a (upd f 18 (nI x1)) w)), (a 14, .inl (cI, 2001, .inl sf)), (a 15, .inl (cI, 2001, .inl pf))] s.heap := hP
  have hl := lv_entry ([.ref h0, .ref (K i)]) (n := 2) (Nat.le_of_ble_eq_true rfl)
  rw [lg_entry_eq]
  generalize (lg_sl ([.ref h0, .ref (K i)]) ++ List.replicate (2 - (lg_sl ([.ref h0, .ref (K i)])).length) Slot.unset).toArray = ls at hl ⊢
  have hl : lv_has ls 2 [(0, .ref h0), (1, .ref (K i))] := hl
  have hnw : f 21 = 0 ∨ ¬ sf x1 = 1 := Or.inl hg
  refine lv_aload_n hx hb dX12_needWord_0 rfl (lv_at hl 0 rfl) ?_
  refine lv_aload_n hx hb dX12_needWord_1 rfl (lv_at hl 1 rfl) ?_
  have hPc := hP.sub (ws' := [(h0, .inr (13, moF a (upd f 18 (nI x1)) w)), (a 14, .inl (cI, 2001, .inl sf))]) [0, 1] rfl
  have hDc := hD.sub (ws' := [(h0, .inr (13, moF a (upd f 18 (nI x1)) w)), (a 14, .inl (cI, 2001, .inl sf))]) [0, 1] (by decide) rfl
  have hKc := hK.sub (tys' := [(cB, .byte), (cI, .int), (cJ, .long), (cZ, .boolean)]) [0, 1, 2, 3] rfl
  have hFc := va_free (wc := [(h0, .inr (13, moF a (upd f 18 (nI x1)) w)), (a 14, .inl (cI, 2001, .inl sf))]) hD hS hA [0, 1] rfl
  refine va_calli (va_runV (As := [.ref (K i)]) (rest := []) ⟨hx, hb, hml, hown, hts⟩ (t_X12_takeWord_n l dC dI s.heap.size cB cI cJ cZ h0 a (upd f 18 (nI x1)) w x1 sf pf i K V fz hx1 hnw) (cwV 1 hts (gd_all (in_V kw_2238 kw_2240 kw_134 kw_191 kc_X12_takeWord)) rfl rfl rfl (by decide +kernel) ⟨Nat.le_of_ble_eq_true rfl, Nat.le_of_ble_eq_true rfl⟩) ⟨fun a U g mk q => by obtain ⟨q0, q1, qP, qK, qD, qZ⟩ := q; exact ⟨q0, q1, qP, va_K.moved (u := U) (U := U.calling g mk a) (Vm.Alike.refl U.vm) qK, qD, zE.same (u := U) (U := U.calling g mk a) rfl rfl qZ⟩, va_recv hKc hPc (ci := 13) (q0 := 0) rfl rfl, fun U hU hW => ⟨rfl, by rw [hU], by rw [hU]; exact hPc, va_K.moved hW.alike hKc, hDc.weaken (fun _ _ _ _ => trivial), zE.go hZ hS hU hW hFc⟩⟩ rfl rfl hl.1 rfl (lv_room (Nat.le_of_ble_eq_true rfl)) dX12_needWord_2 ⟨Nat.le_of_ble_eq_true rfl, Nat.le_of_ble_eq_true rfl⟩) hS (fun q _ h => hFc q h) hFc (fun r_1 u t_ H1 locs ht hvm hw hB hz1 hk1 hS => ?_)
  obtain ⟨hP1, hK1, hD1⟩ := hB
  rw [ht] at hP1
  have hK1 := va_K.moved hvm.symm hK1
  obtain ⟨hP, hD⟩ := va_join (wr := [(a 15, .inl (cI, 2001, .inl pf))]) (w1 := [(h0, .inr (13, moF a (upd f 18 (nI x1)) w)), (a 14, .inl (cI, 2001, .inl sf))]) hP hD [0, 1] [2] rfl rfl (by decide) (by decide) hk1 hFc hP1 hD1
  have hK := (hK.sub (tys' := []) [] rfl).app hK1
  generalize H1 = H at hP hS ⊢
  have hP : va_P (dC, dI) vwCl [(a 15, .inl (cI, 2001, .inl pf)), (h0, .inr (13, moF a (upd f 18 (nI x1)) w)), (a 14, .inl (cI, 2001, .inl sf))] H := hP
  have hD : va_D A [(a 15, .inl (cI, 2001, .inl pf)), (h0, .inr (13, moF a (upd f 18 (nI x1)) w)), (a 14, .inl (cI, 2001, .inl sf))] := hD
  have hK : va_K (dC, dI) vwCl [(cB, .byte), (cI, .int), (cJ, .long), (cZ, .boolean)] s := hK
  have er_1 : r_1 = 0 := hw
  rw [er_1]
  refine lv_if_ne (tgt := 12) hx hb dX12_needWord_5 (by decide) (fun c_2 => ?_) (fun c_2 => ?_)
  · skip
    exact absurd c_2 (by decide)
  · skip
    refine lv_aload_n hx hb dX12_needWord_8 rfl (lv_at hl 0 rfl) ?_
    have hPc := hP.sub (ws' := [(h0, .inr (13, moF a (upd f 18 (nI x1)) w)), (a 14, .inl (cI, 2001, .inl sf)), (a 15, .inl (cI, 2001, .inl pf))]) [1, 2, 0] rfl
    have hDc := hD.sub (ws' := [(h0, .inr (13, moF a (upd f 18 (nI x1)) w)), (a 14, .inl (cI, 2001, .inl sf)), (a 15, .inl (cI, 2001, .inl pf))]) [1, 2, 0] (by decide) rfl
    have hKc := hK.sub (tys' := [(cB, .byte), (cI, .int), (cJ, .long), (cZ, .boolean)]) [0, 1, 2, 3] rfl
    have hFc := va_free (wc := [(h0, .inr (13, moF a (upd f 18 (nI x1)) w)), (a 14, .inl (cI, 2001, .inl sf)), (a 15, .inl (cI, 2001, .inl pf))]) hD hS hA [1, 2, 0] rfl
    refine va_callv (va_runV (As := []) (rest := []) ⟨hx, hb, hml, hown, hts⟩ (t_X12_wrong_0 l dC dI H.size cB cI cJ cZ h0 a (upd f 18 (nI x1)) w x1 sf pf hx1 hg) (cwV 0 hts (gd_all (in_V kw_2265 kw_2267 kw_140 kw_191 kc_X12_wrong)) rfl rfl rfl (by decide +kernel) ⟨Nat.le_of_ble_eq_true rfl, Nat.le_of_ble_eq_true rfl⟩) ⟨fun a U g mk q => by obtain ⟨q0, q1, qP, qK, qD⟩ := q; exact ⟨q0, q1, qP, va_K.moved (u := U) (U := U.calling g mk a) (Vm.Alike.refl U.vm) qK, qD⟩, va_recv hKc hPc (ci := 13) (q0 := 0) rfl rfl, fun U hU hW => ⟨rfl, by rw [hU], by rw [hU]; exact hPc, va_K.moved hW.alike hKc, hDc.weaken (fun _ _ _ _ => trivial)⟩⟩ rfl rfl hl.1 rfl (lv_room (Nat.le_of_ble_eq_true rfl)) dX12_needWord_9 ⟨Nat.le_of_ble_eq_true rfl, Nat.le_of_ble_eq_true rfl⟩) hS (fun q _ h => hFc q h) hFc (fun u t_ H1 locs ht hvm hw hB hz1 hk1 hS => ?_)
    obtain ⟨hP1, hK1, hD1⟩ := hB
    rw [ht] at hP1
    have hK1 := va_K.moved hvm.symm hK1
    obtain ⟨hP, hD⟩ := va_join (wr := []) (w1 := [(h0, .inr (13, moF a (upd f 18 (nI x1)) w)), (a 14, .inl (cI, 2001, .inl sf)), (a 15, .inl (cI, 2001, .inl pf))]) hP hD [1, 2, 0] [] rfl rfl (by decide) (by decide) hk1 hFc hP1 hD1
    have hK := (hK.sub (tys' := []) [] rfl).app hK1
    generalize H1 = H at hP hS ⊢
    have hP : va_P (dC, dI) vwCl [(h0, .inr (13, moF a (upd f 18 (nI x1)) w)), (a 14, .inl (cI, 2001, .inl sf)), (a 15, .inl (cI, 2001, .inl pf))] H := hP
    have hD : va_D A [(h0, .inr (13, moF a (upd f 18 (nI x1)) w)), (a 14, .inl (cI, 2001, .inl sf)), (a 15, .inl (cI, 2001, .inl pf))] := hD
    have hK : va_K (dC, dI) vwCl [(cB, .byte), (cI, .int), (cJ, .long), (cZ, .boolean)] s := hK
    have hP9 := hP.sub (ws' := [(h0, .inr (13, moF a (upd f 18 (nI x1)) w)), (a 14, .inl (cI, 2001, .inl sf)), (a 15, .inl (cI, 2001, .inl pf))]) [0, 1, 2] rfl
    have hD9 := hD.sub (ws' := [(h0, .inr (13, moF a (upd f 18 (nI x1)) w)), (a 14, .inl (cI, 2001, .inl sf)), (a 15, .inl (cI, 2001, .inl pf))]) [0, 1, 2] (by decide) rfl
    have hK9 := hK.sub (tys' := [(cB, .byte), (cI, .int), (cJ, .long), (cZ, .boolean)]) [0, 1, 2, 3] rfl
    exact W.vret hx hb hr (fun t_ ht hW => ⟨⟨(), rfl, trivial, by rw [ht]; exact hP9, va_K.moved hW.alike hK9, hD9⟩, hS.F ht⟩) hS.2.2 dX12_needWord_12
theorem dX12_source_0 : decode cX12_source 0 = .ok (.aload_n 0, 1) := by decide +kernel
theorem dX12_source_1 : decode cX12_source 1 = .ok (.getfield 292, 3) := by decide +kernel
theorem dX12_source_4 : decode cX12_source 4 = .ok (.ifCond .ne 4, 3) := by decide +kernel
theorem dX12_source_7 : decode cX12_source 7 = .ok (.return_, 1) := by decide +kernel
abbrev cs_t_X12_source_0 (cB cI cJ cZ : ClassId) (h0 : Nat) (a : Nat → Nat) (f : Nat → Int32) (w : Int64) (y1 y2 y3 : Int32) : va_W := [(h0, .inr (13, moF a f w))]
abbrev pc_t_X12_source_0 (dC : Nat → ClassId) (dI : Nat → Nat → Nat) (sz : Nat) (cB cI cJ cZ : ClassId) (h0 : Nat) (a : Nat → Nat) (f : Nat → Int32) (w : Int64) (y1 y2 y3 : Int32) : Array Value → State → Prop := va_Pc [.ref h0, .int y1, .int y2, .int y3] (fun U => U.heap.size = sz ∧ va_P (dC, dI) vwCl [(h0, .inr (13, moF a f w))] U.heap ∧ va_K (dC, dI) vwCl [(cB, .byte), (cI, .int), (cJ, .long), (cZ, .boolean)] U ∧ va_D (fun _ => True) [(h0, .inr (13, moF a f w))])
abbrev qc_t_X12_source_0 (dC : Nat → ClassId) (dI : Nat → Nat → Nat) (cB cI cJ cZ : ClassId) (h0 : Nat) (a : Nat → Nat) (f : Nat → Int32) (w : Int64) (y1 y2 y3 : Int32) (A : Nat → Prop) : Array Value → State → Outcome → State → Prop := va_Qv (fun (u : Unit) => match u with | _ => True) (fun (u : Unit) t_ => match u with | _ => va_P (dC, dI) vwCl [(h0, .inr (13, moF a f w))] t_.heap ∧ va_K (dC, dI) vwCl [(cB, .byte), (cI, .int), (cJ, .long), (cZ, .boolean)] t_ ∧ va_D A [(h0, .inr (13, moF a f w))]) A
set_option maxHeartbeats 4000000 in
set_option maxRecDepth 100000 in
theorem t_X12_source_0 (l : Launch) (dC : Nat → ClassId) (dI : Nat → Nat → Nat) (sz : Nat) (cB cI cJ cZ : ClassId) (h0 : Nat) (a : Nat → Nat) (f : Nat → Int32) (w : Int64) (y1 y2 y3 : Int32) (hg : f 21 = 0) : Met l yX12_source (wsOf yX12_source cX12_source 7 none) ({ frames := 0, cells := 0, slots := 0, locals := 0 }) (pc_t_X12_source_0 dC dI sz cB cI cJ cZ h0 a f w y1 y2 y3) (qc_t_X12_source_0 dC dI cB cI cJ cZ h0 a f w y1 y2 y3 (va_A (cs_t_X12_source_0 cB cI cJ cZ h0 a f w y1 y2 y3) sz)) 0 0 (va_A (cs_t_X12_source_0 cB cI cJ cZ h0 a f w y1 y2 y3) sz) := by
  refine Met.ofW (cc := cX12_source) (maxL := 7) (ret := none) (by decide) rfl ?_
  intro p e s m args below meth c s₁ B hml hv
  obtain ⟨rfl, hsz, hP, hK, hD0⟩ := hv
  have hx := B.exec
  have hb := B.bytes
  have hr := B.returns
  have hts := atoms_spec (ws := (wsOf yX12_source cX12_source 7 none)) B.pre
  have hown : s.vm.findClass RX12 = some m.cls := findClass_of_methodNamed B.named
  have hlocks := B.notSynchronized
  subst hsz
  have hD := hD0.self (sz := s.heap.size)
  generalize hAe : va_A (cs_t_X12_source_0 cB cI cJ cZ h0 a f w y1 y2 y3) s.heap.size = A at hD ⊢
  have hA : ∀ q : Nat, s.heap.size ≤ q → A q := fun q h => by rw [← hAe]; exact Or.inr h
  have hS : va_S A s.heap s.heap [] := va_S.rf
  have hP : va_P (dC, dI) vwCl [(h0, .inr (13, moF a f w))] s.heap := hP
  have hl := lv_entry ([.ref h0, .int y1, .int y2, .int y3]) (n := 7) (Nat.le_of_ble_eq_true rfl)
  rw [lg_entry_eq]
  generalize (lg_sl ([.ref h0, .int y1, .int y2, .int y3]) ++ List.replicate (7 - (lg_sl ([.ref h0, .int y1, .int y2, .int y3])).length) Slot.unset).toArray = ls at hl ⊢
  have hl : lv_has ls 7 [(0, .ref h0), (1, .int y1), (2, .int y2), (3, .int y3)] := hl
  refine lv_aload_n hx hb dX12_source_0 rfl (lv_at hl 0 rfl) ?_
  refine va_get (D := (dC, dI)) (ci := 13) (v := .int (f 21)) (C := RX12) (T := TX12) (N := 115) hx hb hts (fun w h => List.mem_cons_of_mem _ (uG_X12 w h)) hown hK hP 0 rfl rfl 21 (by decide) (hts _ (List.mem_cons_of_mem _ kw_1712)) (fun _ h9 => h9) rfl dX12_source_1 ?_
  refine lv_if_ne (tgt := 8) hx hb dX12_source_4 (by decide) (fun c_1 => ?_) (fun c_1 => ?_)
  · skip
    exact absurd hg c_1
  · skip
    have hP9 := hP.sub (ws' := [(h0, .inr (13, moF a f w))]) [0] rfl
    have hD9 := hD.sub (ws' := [(h0, .inr (13, moF a f w))]) [0] (by decide) rfl
    have hK9 := hK.sub (tys' := [(cB, .byte), (cI, .int), (cJ, .long), (cZ, .boolean)]) [0, 1, 2, 3] rfl
    exact W.vret hx hb hr (fun t_ ht hW => ⟨⟨(), rfl, trivial, by rw [ht]; exact hP9, va_K.moved hW.alike hK9, hD9⟩, hS.F ht⟩) hS.2.2 dX12_source_7
theorem dX12_selectOf_0 : decode cX12_selectOf 0 = .ok (.aload_n 0, 1) := by decide +kernel
theorem dX12_selectOf_1 : decode cX12_selectOf 1 = .ok (.ldc_w 476, 3) := by decide +kernel
theorem dX12_selectOf_4 : decode cX12_selectOf 4 = .ok (.invokevirtual 408, 3) := by decide +kernel
theorem dX12_selectOf_7 : decode cX12_selectOf 7 = .ok (.aload_n 0, 1) := by decide +kernel
theorem dX12_selectOf_8 : decode cX12_selectOf 8 = .ok (.getfield 477, 3) := by decide +kernel
theorem dX12_selectOf_11 : decode cX12_selectOf 11 = .ok (.istore_n 1, 1) := by decide +kernel
theorem dX12_selectOf_12 : decode cX12_selectOf 12 = .ok (.aload_n 0, 1) := by decide +kernel
theorem dX12_selectOf_13 : decode cX12_selectOf 13 = .ok (.dup, 1) := by decide +kernel
theorem dX12_selectOf_14 : decode cX12_selectOf 14 = .ok (.getfield 477, 3) := by decide +kernel
theorem dX12_selectOf_17 : decode cX12_selectOf 17 = .ok (.iconst 1, 1) := by decide +kernel
theorem dX12_selectOf_18 : decode cX12_selectOf 18 = .ok (.iadd, 1) := by decide +kernel
theorem dX12_selectOf_19 : decode cX12_selectOf 19 = .ok (.putfield 477, 3) := by decide +kernel
theorem dX12_selectOf_22 : decode cX12_selectOf 22 = .ok (.aload_n 0, 1) := by decide +kernel
theorem dX12_selectOf_23 : decode cX12_selectOf 23 = .ok (.getfield 447, 3) := by decide +kernel
theorem dX12_selectOf_26 : decode cX12_selectOf 26 = .ok (.istore_n 2, 1) := by decide +kernel
theorem dX12_selectOf_27 : decode cX12_selectOf 27 = .ok (.aload_n 0, 1) := by decide +kernel
theorem dX12_selectOf_28 : decode cX12_selectOf 28 = .ok (.iload_n 1, 1) := by decide +kernel
theorem dX12_selectOf_29 : decode cX12_selectOf 29 = .ok (.putfield 447, 3) := by decide +kernel
theorem dX12_selectOf_32 : decode cX12_selectOf 32 = .ok (.aload_n 0, 1) := by decide +kernel
theorem dX12_selectOf_33 : decode cX12_selectOf 33 = .ok (.getfield 88, 3) := by decide +kernel
theorem dX12_selectOf_36 : decode cX12_selectOf 36 = .ok (.iload_n 1, 1) := by decide +kernel
theorem dX12_selectOf_37 : decode cX12_selectOf 37 = .ok (.iconst 0, 1) := by decide +kernel
theorem dX12_selectOf_38 : decode cX12_selectOf 38 = .ok (.iastore, 1) := by decide +kernel
theorem dX12_selectOf_39 : decode cX12_selectOf 39 = .ok (.aload_n 0, 1) := by decide +kernel
theorem dX12_selectOf_40 : decode cX12_selectOf 40 = .ok (.getfield 91, 3) := by decide +kernel
theorem dX12_selectOf_43 : decode cX12_selectOf 43 = .ok (.iload_n 1, 1) := by decide +kernel
theorem dX12_selectOf_44 : decode cX12_selectOf 44 = .ok (.iconst 0, 1) := by decide +kernel
theorem dX12_selectOf_45 : decode cX12_selectOf 45 = .ok (.iastore, 1) := by decide +kernel
theorem dX12_selectOf_46 : decode cX12_selectOf 46 = .ok (.aload_n 0, 1) := by decide +kernel
theorem dX12_selectOf_47 : decode cX12_selectOf 47 = .ok (.getfield 94, 3) := by decide +kernel
theorem dX12_selectOf_50 : decode cX12_selectOf 50 = .ok (.iload_n 1, 1) := by decide +kernel
theorem dX12_selectOf_51 : decode cX12_selectOf 51 = .ok (.iconst (-1), 1) := by decide +kernel
theorem dX12_selectOf_52 : decode cX12_selectOf 52 = .ok (.iastore, 1) := by decide +kernel
theorem dX12_selectOf_53 : decode cX12_selectOf 53 = .ok (.aload_n 0, 1) := by decide +kernel
theorem dX12_selectOf_54 : decode cX12_selectOf 54 = .ok (.getfield 97, 3) := by decide +kernel
theorem dX12_selectOf_57 : decode cX12_selectOf 57 = .ok (.iload_n 1, 1) := by decide +kernel
theorem dX12_selectOf_58 : decode cX12_selectOf 58 = .ok (.iconst 0, 1) := by decide +kernel
theorem dX12_selectOf_59 : decode cX12_selectOf 59 = .ok (.iastore, 1) := by decide +kernel
theorem dX12_selectOf_60 : decode cX12_selectOf 60 = .ok (.aload_n 0, 1) := by decide +kernel
theorem dX12_selectOf_61 : decode cX12_selectOf 61 = .ok (.getfield 100, 3) := by decide +kernel
theorem dX12_selectOf_64 : decode cX12_selectOf 64 = .ok (.iload_n 1, 1) := by decide +kernel
theorem dX12_selectOf_65 : decode cX12_selectOf 65 = .ok (.iconst (-1), 1) := by decide +kernel
theorem dX12_selectOf_66 : decode cX12_selectOf 66 = .ok (.iastore, 1) := by decide +kernel
theorem dX12_selectOf_67 : decode cX12_selectOf 67 = .ok (.aload_n 0, 1) := by decide +kernel
theorem dX12_selectOf_68 : decode cX12_selectOf 68 = .ok (.getfield 103, 3) := by decide +kernel
theorem dX12_selectOf_71 : decode cX12_selectOf 71 = .ok (.iload_n 1, 1) := by decide +kernel
theorem dX12_selectOf_72 : decode cX12_selectOf 72 = .ok (.iconst (-1), 1) := by decide +kernel
theorem dX12_selectOf_73 : decode cX12_selectOf 73 = .ok (.iastore, 1) := by decide +kernel
theorem dX12_selectOf_74 : decode cX12_selectOf 74 = .ok (.aload_n 0, 1) := by decide +kernel
theorem dX12_selectOf_75 : decode cX12_selectOf 75 = .ok (.getfield 106, 3) := by decide +kernel
theorem dX12_selectOf_78 : decode cX12_selectOf 78 = .ok (.iload_n 1, 1) := by decide +kernel
theorem dX12_selectOf_79 : decode cX12_selectOf 79 = .ok (.iconst 0, 1) := by decide +kernel
theorem dX12_selectOf_80 : decode cX12_selectOf 80 = .ok (.iastore, 1) := by decide +kernel
theorem dX12_selectOf_81 : decode cX12_selectOf 81 = .ok (.aload_n 0, 1) := by decide +kernel
theorem dX12_selectOf_82 : decode cX12_selectOf 82 = .ok (.getfield 109, 3) := by decide +kernel
theorem dX12_selectOf_85 : decode cX12_selectOf 85 = .ok (.iload_n 1, 1) := by decide +kernel
theorem dX12_selectOf_86 : decode cX12_selectOf 86 = .ok (.iconst (-1), 1) := by decide +kernel
theorem dX12_selectOf_87 : decode cX12_selectOf 87 = .ok (.iastore, 1) := by decide +kernel
theorem dX12_selectOf_88 : decode cX12_selectOf 88 = .ok (.aload_n 0, 1) := by decide +kernel
theorem dX12_selectOf_89 : decode cX12_selectOf 89 = .ok (.getfield 85, 3) := by decide +kernel
theorem dX12_selectOf_92 : decode cX12_selectOf 92 = .ok (.iload_n 1, 1) := by decide +kernel
theorem dX12_selectOf_93 : decode cX12_selectOf 93 = .ok (.aload_n 0, 1) := by decide +kernel
theorem dX12_selectOf_94 : decode cX12_selectOf 94 = .ok (.ldc_w 480, 3) := by decide +kernel
theorem dX12_selectOf_97 : decode cX12_selectOf 97 = .ok (.invokevirtual 322, 3) := by decide +kernel
theorem dX12_selectOf_100 : decode cX12_selectOf 100 = .ok (.ifCond .eq 15, 3) := by decide +kernel
theorem dX12_selectOf_115 : decode cX12_selectOf 115 = .ok (.iconst (-1), 1) := by decide +kernel
theorem dX12_selectOf_116 : decode cX12_selectOf 116 = .ok (.iastore, 1) := by decide +kernel
theorem dX12_selectOf_117 : decode cX12_selectOf 117 = .ok (.aload_n 0, 1) := by decide +kernel
theorem dX12_selectOf_118 : decode cX12_selectOf 118 = .ok (.ldc_w 480, 3) := by decide +kernel
theorem dX12_selectOf_121 : decode cX12_selectOf 121 = .ok (.invokevirtual 326, 3) := by decide +kernel
theorem dX12_selectOf_124 : decode cX12_selectOf 124 = .ok (.istore_n 3, 1) := by decide +kernel
theorem dX12_selectOf_125 : decode cX12_selectOf 125 = .ok (.iconst 1, 1) := by decide +kernel
theorem dX12_selectOf_126 : decode cX12_selectOf 126 = .ok (.istore 4, 2) := by decide +kernel
theorem dX12_selectOf_128 : decode cX12_selectOf 128 = .ok (.aload_n 0, 1) := by decide +kernel
theorem dX12_selectOf_129 : decode cX12_selectOf 129 = .ok (.iconst 1, 1) := by decide +kernel
theorem dX12_selectOf_130 : decode cX12_selectOf 130 = .ok (.putfield 358, 3) := by decide +kernel
theorem dX12_selectOf_133 : decode cX12_selectOf 133 = .ok (.iload 4, 2) := by decide +kernel
theorem dX12_selectOf_135 : decode cX12_selectOf 135 = .ok (.ifCond .eq 221, 3) := by decide +kernel
theorem dX12_selectOf_138 : decode cX12_selectOf 138 = .ok (.aload_n 0, 1) := by decide +kernel
theorem dX12_selectOf_139 : decode cX12_selectOf 139 = .ok (.getfield 292, 3) := by decide +kernel
theorem dX12_selectOf_142 : decode cX12_selectOf 142 = .ok (.ifCond .eq 214, 3) := by decide +kernel
theorem dX12_selectOf_356 : decode cX12_selectOf 356 = .ok (.aload_n 0, 1) := by decide +kernel
theorem dX12_selectOf_357 : decode cX12_selectOf 357 = .ok (.iconst 0, 1) := by decide +kernel
theorem dX12_selectOf_358 : decode cX12_selectOf 358 = .ok (.putfield 358, 3) := by decide +kernel
theorem dX12_selectOf_361 : decode cX12_selectOf 361 = .ok (.aload_n 0, 1) := by decide +kernel
theorem dX12_selectOf_362 : decode cX12_selectOf 362 = .ok (.ldc_w 484, 3) := by decide +kernel
theorem dX12_selectOf_365 : decode cX12_selectOf 365 = .ok (.invokevirtual 408, 3) := by decide +kernel
theorem dX12_selectOf_368 : decode cX12_selectOf 368 = .ok (.aload_n 0, 1) := by decide +kernel
theorem dX12_selectOf_369 : decode cX12_selectOf 369 = .ok (.iload_n 1, 1) := by decide +kernel
theorem dX12_selectOf_370 : decode cX12_selectOf 370 = .ok (.iconst 0, 1) := by decide +kernel
theorem dX12_selectOf_371 : decode cX12_selectOf 371 = .ok (.iconst (-1), 1) := by decide +kernel
theorem dX12_selectOf_372 : decode cX12_selectOf 372 = .ok (.invokevirtual 486, 3) := by decide +kernel
theorem dX12_selectOf_375 : decode cX12_selectOf 375 = .ok (.aload_n 0, 1) := by decide +kernel
theorem dX12_selectOf_376 : decode cX12_selectOf 376 = .ok (.getfield 292, 3) := by decide +kernel
theorem dX12_selectOf_379 : decode cX12_selectOf 379 = .ok (.ifCond .eq 124, 3) := by decide +kernel
theorem dX12_selectOf_503 : decode cX12_selectOf 503 = .ok (.aload_n 0, 1) := by decide +kernel
theorem dX12_selectOf_504 : decode cX12_selectOf 504 = .ok (.iload_n 1, 1) := by decide +kernel
theorem dX12_selectOf_505 : decode cX12_selectOf 505 = .ok (.putfield 447, 3) := by decide +kernel
theorem dX12_selectOf_508 : decode cX12_selectOf 508 = .ok (.aload_n 0, 1) := by decide +kernel
theorem dX12_selectOf_509 : decode cX12_selectOf 509 = .ok (.iconst 0, 1) := by decide +kernel
theorem dX12_selectOf_510 : decode cX12_selectOf 510 = .ok (.putfield 358, 3) := by decide +kernel
theorem dX12_selectOf_513 : decode cX12_selectOf 513 = .ok (.aload_n 0, 1) := by decide +kernel
theorem dX12_selectOf_514 : decode cX12_selectOf 514 = .ok (.ldc_w 495, 3) := by decide +kernel
theorem dX12_selectOf_517 : decode cX12_selectOf 517 = .ok (.invokevirtual 326, 3) := by decide +kernel
theorem dX12_selectOf_520 : decode cX12_selectOf 520 = .ok (.ifCond .eq 24, 3) := by decide +kernel
theorem dX12_selectOf_544 : decode cX12_selectOf 544 = .ok (.aload_n 0, 1) := by decide +kernel
theorem dX12_selectOf_545 : decode cX12_selectOf 545 = .ok (.ldc_w 497, 3) := by decide +kernel
theorem dX12_selectOf_548 : decode cX12_selectOf 548 = .ok (.invokevirtual 322, 3) := by decide +kernel
theorem dX12_selectOf_551 : decode cX12_selectOf 551 = .ok (.ifCond .eq 185, 3) := by decide +kernel
theorem dX12_selectOf_736 : decode cX12_selectOf 736 = .ok (.aload_n 0, 1) := by decide +kernel
theorem dX12_selectOf_737 : decode cX12_selectOf 737 = .ok (.ldc_w 498, 3) := by decide +kernel
theorem dX12_selectOf_740 : decode cX12_selectOf 740 = .ok (.invokevirtual 326, 3) := by decide +kernel
theorem dX12_selectOf_743 : decode cX12_selectOf 743 = .ok (.ifCond .eq 34, 3) := by decide +kernel
theorem dX12_selectOf_777 : decode cX12_selectOf 777 = .ok (.aload_n 0, 1) := by decide +kernel
theorem dX12_selectOf_778 : decode cX12_selectOf 778 = .ok (.iload_n 2, 1) := by decide +kernel
theorem dX12_selectOf_779 : decode cX12_selectOf 779 = .ok (.putfield 447, 3) := by decide +kernel
theorem dX12_selectOf_782 : decode cX12_selectOf 782 = .ok (.iload_n 1, 1) := by decide +kernel
theorem dX12_selectOf_783 : decode cX12_selectOf 783 = .ok (.ireturn, 1) := by decide +kernel
abbrev cs_t_X12_selectOf_e (cB cI cJ cZ : ClassId) (h0 : Nat) (a : Nat → Nat) (f : Nat → Int32) (w : Int64) (x1 s1 : Nat) (sf pf : Nat → Int32) (sa : Nat → Nat → Int32) (K V : Nat → Nat) (fz : Value) : va_W := [(h0, .inr (13, moF a (upd (upd f 18 (nI x1)) 34 (nI s1)) w)), (a 14, .inl (cI, 2001, .inl sf)), (a 15, .inl (cI, 2001, .inl pf)), (a 36, .inl (cI, 60, .inl (sa 0))), (a 37, .inl (cI, 60, .inl (sa 1))), (a 38, .inl (cI, 60, .inl (sa 2))), (a 39, .inl (cI, 60, .inl (sa 3))), (a 40, .inl (cI, 60, .inl (sa 4))), (a 41, .inl (cI, 60, .inl (sa 5))), (a 42, .inl (cI, 60, .inl (sa 6))), (a 43, .inl (cI, 60, .inl (sa 7))), (a 35, .inl (cI, 60, .inl (sa 8)))]
abbrev pc_t_X12_selectOf_e (dC : Nat → ClassId) (dI : Nat → Nat → Nat) (sz : Nat) (cB cI cJ cZ : ClassId) (h0 : Nat) (a : Nat → Nat) (f : Nat → Int32) (w : Int64) (x1 s1 : Nat) (sf pf : Nat → Int32) (sa : Nat → Nat → Int32) (K V : Nat → Nat) (fz : Value) : Array Value → State → Prop := va_Pc [.ref h0] (fun U => U.heap.size = sz ∧ va_P (dC, dI) vwCl [(h0, .inr (13, moF a (upd (upd f 18 (nI x1)) 34 (nI s1)) w)), (a 14, .inl (cI, 2001, .inl sf)), (a 15, .inl (cI, 2001, .inl pf)), (a 36, .inl (cI, 60, .inl (sa 0))), (a 37, .inl (cI, 60, .inl (sa 1))), (a 38, .inl (cI, 60, .inl (sa 2))), (a 39, .inl (cI, 60, .inl (sa 3))), (a 40, .inl (cI, 60, .inl (sa 4))), (a 41, .inl (cI, 60, .inl (sa 5))), (a 42, .inl (cI, 60, .inl (sa 6))), (a 43, .inl (cI, 60, .inl (sa 7))), (a 35, .inl (cI, 60, .inl (sa 8)))] U.heap ∧ va_K (dC, dI) vwCl [(cB, .byte), (cI, .int), (cJ, .long), (cZ, .boolean)] U ∧ va_D (fun _ => True) [(h0, .inr (13, moF a (upd (upd f 18 (nI x1)) 34 (nI s1)) w)), (a 14, .inl (cI, 2001, .inl sf)), (a 15, .inl (cI, 2001, .inl pf)), (a 36, .inl (cI, 60, .inl (sa 0))), (a 37, .inl (cI, 60, .inl (sa 1))), (a 38, .inl (cI, 60, .inl (sa 2))), (a 39, .inl (cI, 60, .inl (sa 3))), (a 40, .inl (cI, 60, .inl (sa 4))), (a 41, .inl (cI, 60, .inl (sa 5))), (a 42, .inl (cI, 60, .inl (sa 6))), (a 43, .inl (cI, 60, .inl (sa 7))), (a 35, .inl (cI, 60, .inl (sa 8)))] ∧ zE K V fz (va_A (cs_t_X12_selectOf_e cB cI cJ cZ h0 a f w x1 s1 sf pf sa K V fz) sz) U)
abbrev qc_t_X12_selectOf_e (dC : Nat → ClassId) (dI : Nat → Nat → Nat) (cB cI cJ cZ : ClassId) (h0 : Nat) (a : Nat → Nat) (f : Nat → Int32) (w : Int64) (x1 s1 : Nat) (sf pf : Nat → Int32) (sa : Nat → Nat → Int32) (K V : Nat → Nat) (fz : Value) (A : Nat → Prop) : Array Value → State → Outcome → State → Prop := va_Qi (fun (r : Int32) (u : Unit) => match u with | _ => r = nI s1) (fun (u : Unit) t_ => match u with | _ => va_P (dC, dI) vwCl [(h0, .inr (13, moF a (upd (upd (upd (upd (upd (upd (upd f 18 (nI x1)) 21 0) 19 1) 20 (pf x1)) 34 (nI (s1 + 1))) 72 0) 71 (f 71)) w)), (a 14, .inl (cI, 2001, .inl sf)), (a 15, .inl (cI, 2001, .inl pf)), (a 36, .inl (cI, 60, .inl (upd (sa 0) s1 0))), (a 37, .inl (cI, 60, .inl (upd (sa 1) s1 0))), (a 38, .inl (cI, 60, .inl (upd (sa 2) s1 (-1)))), (a 39, .inl (cI, 60, .inl (upd (sa 3) s1 0))), (a 40, .inl (cI, 60, .inl (upd (sa 4) s1 (-1)))), (a 41, .inl (cI, 60, .inl (upd (sa 5) s1 (-1)))), (a 42, .inl (cI, 60, .inl (upd (sa 6) s1 0))), (a 43, .inl (cI, 60, .inl (upd (sa 7) s1 (-1)))), (a 35, .inl (cI, 60, .inl (upd (sa 8) s1 (-1))))] t_.heap ∧ va_K (dC, dI) vwCl [(cB, .byte), (cI, .int), (cJ, .long), (cZ, .boolean)] t_ ∧ va_D A [(h0, .inr (13, moF a (upd (upd (upd (upd (upd (upd (upd f 18 (nI x1)) 21 0) 19 1) 20 (pf x1)) 34 (nI (s1 + 1))) 72 0) 71 (f 71)) w)), (a 14, .inl (cI, 2001, .inl sf)), (a 15, .inl (cI, 2001, .inl pf)), (a 36, .inl (cI, 60, .inl (upd (sa 0) s1 0))), (a 37, .inl (cI, 60, .inl (upd (sa 1) s1 0))), (a 38, .inl (cI, 60, .inl (upd (sa 2) s1 (-1)))), (a 39, .inl (cI, 60, .inl (upd (sa 3) s1 0))), (a 40, .inl (cI, 60, .inl (upd (sa 4) s1 (-1)))), (a 41, .inl (cI, 60, .inl (upd (sa 5) s1 (-1)))), (a 42, .inl (cI, 60, .inl (upd (sa 6) s1 0))), (a 43, .inl (cI, 60, .inl (upd (sa 7) s1 (-1)))), (a 35, .inl (cI, 60, .inl (upd (sa 8) s1 (-1))))]) A
set_option maxHeartbeats 4000000 in
set_option maxRecDepth 100000 in
theorem t_X12_selectOf_e (l : Launch) (dC : Nat → ClassId) (dI : Nat → Nat → Nat) (sz : Nat) (cB cI cJ cZ : ClassId) (h0 : Nat) (a : Nat → Nat) (f : Nat → Int32) (w : Int64) (x1 s1 : Nat) (sf pf : Nat → Int32) (sa : Nat → Nat → Int32) (K V : Nat → Nat) (fz : Value) (hx1 : x1 ≤ 2000) (hg : ¬ f 21 = 0) (hnw : f 21 = 0 ∨ ¬ sf x1 = 1) (hs1 : s1 < 60) : Met l yX12_selectOf (wsOf yX12_selectOf cX12_selectOf 9 (some .int)) ({ frames := 3, cells := 0, slots := 0, locals := 180 }) (pc_t_X12_selectOf_e dC dI sz cB cI cJ cZ h0 a f w x1 s1 sf pf sa K V fz) (qc_t_X12_selectOf_e dC dI cB cI cJ cZ h0 a f w x1 s1 sf pf sa K V fz (va_A (cs_t_X12_selectOf_e cB cI cJ cZ h0 a f w x1 s1 sf pf sa K V fz) sz)) 0 0 (va_A (cs_t_X12_selectOf_e cB cI cJ cZ h0 a f w x1 s1 sf pf sa K V fz) sz) := by
  refine Met.ofW (cc := cX12_selectOf) (maxL := 9) (ret := (some .int)) (by decide) rfl ?_
  intro p e s m args below meth c s₁ B hml hv
  obtain ⟨rfl, hsz, hP, hK, hD0, hZ⟩ := hv
  have hx := B.exec
  have hb := B.bytes
  have hr := B.returns
  have hts := atoms_spec (ws := (wsOf yX12_selectOf cX12_selectOf 9 (some .int))) B.pre
  have hown : s.vm.findClass RX12 = some m.cls := findClass_of_methodNamed B.named
  have hlocks := B.notSynchronized
  subst hsz
  have hD := hD0.self (sz := s.heap.size)
  generalize hAe : va_A (cs_t_X12_selectOf_e cB cI cJ cZ h0 a f w x1 s1 sf pf sa K V fz) s.heap.size = A at hD hZ ⊢
  have hA : ∀ q : Nat, s.heap.size ≤ q → A q := fun q h => by rw [← hAe]; exact Or.inr h
  have hS : va_S A s.heap s.heap [] := va_S.rf
  have hP : va_P (dC, dI) vwCl [(h0, .inr (13, moF a (upd (upd f 18 (nI x1)) 34 (nI s1)) w)), (a 14, .inl (cI, 2001, .inl sf)), (a 15, .inl (cI, 2001, .inl pf)), (a 36, .inl (cI, 60, .inl (sa 0))), (a 37, .inl (cI, 60, .inl (sa 1))), (a 38, .inl (cI, 60, .inl (sa 2))), (a 39, .inl (cI, 60, .inl (sa 3))), (a 40, .inl (cI, 60, .inl (sa 4))), (a 41, .inl (cI, 60, .inl (sa 5))), (a 42, .inl (cI, 60, .inl (sa 6))), (a 43, .inl (cI, 60, .inl (sa 7))), (a 35, .inl (cI, 60, .inl (sa 8)))] s.heap := hP
  have hl := lv_entry ([.ref h0]) (n := 9) (Nat.le_of_ble_eq_true rfl)
  rw [lg_entry_eq]
  generalize (lg_sl ([.ref h0]) ++ List.replicate (9 - (lg_sl ([.ref h0])).length) Slot.unset).toArray = ls at hl ⊢
  have hl : lv_has ls 9 [(0, .ref h0)] := hl
  refine lv_aload_n hx hb dX12_selectOf_0 rfl (lv_at hl 0 rfl) ?_
  refine va_ldcSW (own := RX12) (index := 476) (tx := soT 3) (q := K 3) hx hb hown (hZ.ref 3 (by decide)) dX12_selectOf_1 ?_
  have hPc := hP.sub (ws' := [(h0, .inr (13, moF a (upd (upd f 18 (nI x1)) 34 (nI s1)) w)), (a 14, .inl (cI, 2001, .inl sf)), (a 15, .inl (cI, 2001, .inl pf))]) [0, 1, 2] rfl
  have hDc := hD.sub (ws' := [(h0, .inr (13, moF a (upd (upd f 18 (nI x1)) 34 (nI s1)) w)), (a 14, .inl (cI, 2001, .inl sf)), (a 15, .inl (cI, 2001, .inl pf))]) [0, 1, 2] (by decide) rfl
  have hKc := hK.sub (tys' := [(cB, .byte), (cI, .int), (cJ, .long), (cZ, .boolean)]) [0, 1, 2, 3] rfl
  have hFc := va_free (wc := [(h0, .inr (13, moF a (upd (upd f 18 (nI x1)) 34 (nI s1)) w)), (a 14, .inl (cI, 2001, .inl sf)), (a 15, .inl (cI, 2001, .inl pf))]) hD hS hA [0, 1, 2] rfl
  refine va_callv (va_runV (As := [.ref (K 3)]) (rest := []) ⟨hx, hb, hml, hown, hts⟩ (t_X12_needWord_1 l dC dI s.heap.size cB cI cJ cZ h0 a (upd (upd f 18 (nI x1)) 34 (nI s1)) w x1 sf pf 3 K V fz hx1 hg hnw) (cwV 1 hts (gd_all (in_V kw_2261 kw_2263 kw_139 kw_191 kc_X12_needWord)) rfl rfl rfl (by decide +kernel) ⟨Nat.le_of_ble_eq_true rfl, Nat.le_of_ble_eq_true rfl⟩) ⟨fun a U g mk q => by obtain ⟨q0, q1, qP, qK, qD, qZ⟩ := q; exact ⟨q0, q1, qP, va_K.moved (u := U) (U := U.calling g mk a) (Vm.Alike.refl U.vm) qK, qD, zE.same (u := U) (U := U.calling g mk a) rfl rfl qZ⟩, va_recv hKc hPc (ci := 13) (q0 := 0) rfl rfl, fun U hU hW => ⟨rfl, by rw [hU], by rw [hU]; exact hPc, va_K.moved hW.alike hKc, hDc.weaken (fun _ _ _ _ => trivial), zE.go hZ hS hU hW hFc⟩⟩ rfl rfl hl.1 rfl (lv_room (Nat.le_of_ble_eq_true rfl)) dX12_selectOf_4 ⟨Nat.le_of_ble_eq_true rfl, Nat.le_of_ble_eq_true rfl⟩) hS (fun q _ h => hFc q h) hFc (fun u t_ H1 locs ht hvm hw hB hz1 hk1 hS => ?_)
  obtain ⟨hP1, hK1, hD1⟩ := hB
  rw [ht] at hP1
  have hK1 := va_K.moved hvm.symm hK1
  obtain ⟨hP, hD⟩ := va_join (wr := [(a 36, .inl (cI, 60, .inl (sa 0))), (a 37, .inl (cI, 60, .inl (sa 1))), (a 38, .inl (cI, 60, .inl (sa 2))), (a 39, .inl (cI, 60, .inl (sa 3))), (a 40, .inl (cI, 60, .inl (sa 4))), (a 41, .inl (cI, 60, .inl (sa 5))), (a 42, .inl (cI, 60, .inl (sa 6))), (a 43, .inl (cI, 60, .inl (sa 7))), (a 35, .inl (cI, 60, .inl (sa 8)))]) (w1 := [(h0, .inr (13, moF a (upd (upd (upd (upd (upd f 18 (nI x1)) 34 (nI s1)) 21 0) 19 1) 20 (pf x1)) w)), (a 14, .inl (cI, 2001, .inl sf)), (a 15, .inl (cI, 2001, .inl pf))]) hP hD [0, 1, 2] [3, 4, 5, 6, 7, 8, 9, 10, 11] rfl rfl (by decide) (by decide) hk1 hFc hP1 hD1
  have hK := (hK.sub (tys' := []) [] rfl).app hK1
  generalize H1 = H at hP hS ⊢
  have hP : va_P (dC, dI) vwCl [(a 36, .inl (cI, 60, .inl (sa 0))), (a 37, .inl (cI, 60, .inl (sa 1))), (a 38, .inl (cI, 60, .inl (sa 2))), (a 39, .inl (cI, 60, .inl (sa 3))), (a 40, .inl (cI, 60, .inl (sa 4))), (a 41, .inl (cI, 60, .inl (sa 5))), (a 42, .inl (cI, 60, .inl (sa 6))), (a 43, .inl (cI, 60, .inl (sa 7))), (a 35, .inl (cI, 60, .inl (sa 8))), (h0, .inr (13, moF a (upd (upd (upd (upd (upd f 18 (nI x1)) 34 (nI s1)) 21 0) 19 1) 20 (pf x1)) w)), (a 14, .inl (cI, 2001, .inl sf)), (a 15, .inl (cI, 2001, .inl pf))] H := hP
  have hD : va_D A [(a 36, .inl (cI, 60, .inl (sa 0))), (a 37, .inl (cI, 60, .inl (sa 1))), (a 38, .inl (cI, 60, .inl (sa 2))), (a 39, .inl (cI, 60, .inl (sa 3))), (a 40, .inl (cI, 60, .inl (sa 4))), (a 41, .inl (cI, 60, .inl (sa 5))), (a 42, .inl (cI, 60, .inl (sa 6))), (a 43, .inl (cI, 60, .inl (sa 7))), (a 35, .inl (cI, 60, .inl (sa 8))), (h0, .inr (13, moF a (upd (upd (upd (upd (upd f 18 (nI x1)) 34 (nI s1)) 21 0) 19 1) 20 (pf x1)) w)), (a 14, .inl (cI, 2001, .inl sf)), (a 15, .inl (cI, 2001, .inl pf))] := hD
  have hK : va_K (dC, dI) vwCl [(cB, .byte), (cI, .int), (cJ, .long), (cZ, .boolean)] s := hK
  have hnw : (0 : Int32) = 0 ∨ ¬ sf x1 = 1 := Or.inl rfl
  refine lv_aload_n hx hb dX12_selectOf_7 rfl (lv_at hl 0 rfl) ?_
  refine va_get (D := (dC, dI)) (ci := 13) (v := .int (nI s1)) (C := RX12) (T := TX12) (N := 115) hx hb hts (fun w h => List.mem_cons_of_mem _ (uG_X12 w h)) hown hK hP 9 rfl rfl 34 (by decide) (hts _ (List.mem_cons_of_mem _ kw_1725)) (fun _ h9 => h9) rfl dX12_selectOf_8 ?_
  refine lv_istore_n (lv' := [(1, .int (nI s1)), (0, .ref h0)]) hx hb dX12_selectOf_11 rfl hl (by decide) rfl (fun ls hl => ?_)
  refine lv_aload_n hx hb dX12_selectOf_12 rfl (lv_at hl 1 rfl) ?_
  refine lv_dup hx hb dX12_selectOf_13 rfl ?_
  refine va_get (D := (dC, dI)) (ci := 13) (v := .int (nI s1)) (C := RX12) (T := TX12) (N := 115) hx hb hts (fun w h => List.mem_cons_of_mem _ (uG_X12 w h)) hown hK hP 9 rfl rfl 34 (by decide) (hts _ (List.mem_cons_of_mem _ kw_1725)) (fun _ h9 => h9) rfl dX12_selectOf_14 ?_
  refine lv_iconst (v := 1) hx hb dX12_selectOf_17 (by decide) ?_
  refine lv_iadd hx hb dX12_selectOf_18 ?_
  refine lv_topi (fun x_2 ex_2 => ?_)
  have ex_2 : x_2 = nI (s1 + 1) := ex_2.trans (nI_add s1 1)
  subst ex_2
  refine va_put (D := (dC, dI)) (ci := 13) (v := .int (nI (s1 + 1))) (ty := .int) (C := RX12) (T := TX12) (N := 115) hx hb hts (fun w h => List.mem_cons_of_mem _ (uG_X12 w h)) tyX12 tyX12_ok nmX12 hown hK hP hD hS 9 rfl rfl 34 (by decide) (hts _ (List.mem_cons_of_mem _ kw_1725)) (fun _ h9 => h9) rfl (by decide +kernel) rfl rfl (Nat.le_of_ble_eq_true rfl) dX12_selectOf_19 (fun H locs hP hD hS => ?_)
  have hP : va_P (dC, dI) vwCl [(a 36, .inl (cI, 60, .inl (sa 0))), (a 37, .inl (cI, 60, .inl (sa 1))), (a 38, .inl (cI, 60, .inl (sa 2))), (a 39, .inl (cI, 60, .inl (sa 3))), (a 40, .inl (cI, 60, .inl (sa 4))), (a 41, .inl (cI, 60, .inl (sa 5))), (a 42, .inl (cI, 60, .inl (sa 6))), (a 43, .inl (cI, 60, .inl (sa 7))), (a 35, .inl (cI, 60, .inl (sa 8))), (h0, .inr (13, moF a (upd (upd (upd (upd (upd f 18 (nI x1)) 21 0) 19 1) 20 (pf x1)) 34 (nI (s1 + 1))) w)), (a 14, .inl (cI, 2001, .inl sf)), (a 15, .inl (cI, 2001, .inl pf))] H := hP
  have hD : va_D A [(a 36, .inl (cI, 60, .inl (sa 0))), (a 37, .inl (cI, 60, .inl (sa 1))), (a 38, .inl (cI, 60, .inl (sa 2))), (a 39, .inl (cI, 60, .inl (sa 3))), (a 40, .inl (cI, 60, .inl (sa 4))), (a 41, .inl (cI, 60, .inl (sa 5))), (a 42, .inl (cI, 60, .inl (sa 6))), (a 43, .inl (cI, 60, .inl (sa 7))), (a 35, .inl (cI, 60, .inl (sa 8))), (h0, .inr (13, moF a (upd (upd (upd (upd (upd f 18 (nI x1)) 21 0) 19 1) 20 (pf x1)) 34 (nI (s1 + 1))) w)), (a 14, .inl (cI, 2001, .inl sf)), (a 15, .inl (cI, 2001, .inl pf))] := hD
  refine lv_aload_n hx hb dX12_selectOf_22 rfl (lv_at hl 1 rfl) ?_
  refine va_get (D := (dC, dI)) (ci := 13) (v := .int (f 71)) (C := RX12) (T := TX12) (N := 115) hx hb hts (fun w h => List.mem_cons_of_mem _ (uG_X12 w h)) hown hK hP 9 rfl rfl 71 (by decide) (hts _ (List.mem_cons_of_mem _ kw_1762)) (fun _ h9 => h9) rfl dX12_selectOf_23 ?_
  refine lv_istore_n (lv' := [(2, .int (f 71)), (1, .int (nI s1)), (0, .ref h0)]) hx hb dX12_selectOf_26 rfl hl (by decide) rfl (fun ls hl => ?_)
  refine lv_aload_n hx hb dX12_selectOf_27 rfl (lv_at hl 2 rfl) ?_
  refine lv_iload_n hx hb dX12_selectOf_28 rfl (lv_at hl 1 rfl) ?_
  refine va_put (D := (dC, dI)) (ci := 13) (v := .int (nI s1)) (ty := .int) (C := RX12) (T := TX12) (N := 115) hx hb hts (fun w h => List.mem_cons_of_mem _ (uG_X12 w h)) tyX12 tyX12_ok nmX12 hown hK hP hD hS 9 rfl rfl 71 (by decide) (hts _ (List.mem_cons_of_mem _ kw_1762)) (fun _ h9 => h9) rfl (by decide +kernel) rfl rfl (Nat.le_of_ble_eq_true rfl) dX12_selectOf_29 (fun H locs hP hD hS => ?_)
  have hP : va_P (dC, dI) vwCl [(a 36, .inl (cI, 60, .inl (sa 0))), (a 37, .inl (cI, 60, .inl (sa 1))), (a 38, .inl (cI, 60, .inl (sa 2))), (a 39, .inl (cI, 60, .inl (sa 3))), (a 40, .inl (cI, 60, .inl (sa 4))), (a 41, .inl (cI, 60, .inl (sa 5))), (a 42, .inl (cI, 60, .inl (sa 6))), (a 43, .inl (cI, 60, .inl (sa 7))), (a 35, .inl (cI, 60, .inl (sa 8))), (h0, .inr (13, moF a (upd (upd (upd (upd (upd (upd f 18 (nI x1)) 21 0) 19 1) 20 (pf x1)) 34 (nI (s1 + 1))) 71 (nI s1)) w)), (a 14, .inl (cI, 2001, .inl sf)), (a 15, .inl (cI, 2001, .inl pf))] H := hP
  have hD : va_D A [(a 36, .inl (cI, 60, .inl (sa 0))), (a 37, .inl (cI, 60, .inl (sa 1))), (a 38, .inl (cI, 60, .inl (sa 2))), (a 39, .inl (cI, 60, .inl (sa 3))), (a 40, .inl (cI, 60, .inl (sa 4))), (a 41, .inl (cI, 60, .inl (sa 5))), (a 42, .inl (cI, 60, .inl (sa 6))), (a 43, .inl (cI, 60, .inl (sa 7))), (a 35, .inl (cI, 60, .inl (sa 8))), (h0, .inr (13, moF a (upd (upd (upd (upd (upd (upd f 18 (nI x1)) 21 0) 19 1) 20 (pf x1)) 34 (nI (s1 + 1))) 71 (nI s1)) w)), (a 14, .inl (cI, 2001, .inl sf)), (a 15, .inl (cI, 2001, .inl pf))] := hD
  refine lv_aload_n hx hb dX12_selectOf_32 rfl (lv_at hl 2 rfl) ?_
  refine va_get (D := (dC, dI)) (ci := 13) (v := .ref (a 36)) (C := RX12) (T := TX12) (N := 115) hx hb hts (fun w h => List.mem_cons_of_mem _ (uG_X12 w h)) hown hK hP 9 rfl rfl 36 (by decide) (hts _ (List.mem_cons_of_mem _ kw_1727)) (fun _ h9 => h9) rfl dX12_selectOf_33 ?_
  refine lv_iload_n hx hb dX12_selectOf_36 rfl (lv_at hl 1 rfl) ?_
  refine lv_iconst (v := 0) hx hb dX12_selectOf_37 (by decide) ?_
  refine va_iast hx hb hK hP hD hS 0 1 rfl rfl (i := (nI s1)) (x := 0) (vp_in_nI (n := s1) (N := 60) (by omega) (by omega)) dX12_selectOf_38 (fun H locs hP hD hS => ?_)
  rw [show (nI s1).toNatClampNeg = s1 from nI_clamp (n := s1) (by omega)] at hP hD
  have hP : va_P (dC, dI) vwCl [(a 36, .inl (cI, 60, .inl (upd (sa 0) s1 0))), (a 37, .inl (cI, 60, .inl (sa 1))), (a 38, .inl (cI, 60, .inl (sa 2))), (a 39, .inl (cI, 60, .inl (sa 3))), (a 40, .inl (cI, 60, .inl (sa 4))), (a 41, .inl (cI, 60, .inl (sa 5))), (a 42, .inl (cI, 60, .inl (sa 6))), (a 43, .inl (cI, 60, .inl (sa 7))), (a 35, .inl (cI, 60, .inl (sa 8))), (h0, .inr (13, moF a (upd (upd (upd (upd (upd (upd f 18 (nI x1)) 21 0) 19 1) 20 (pf x1)) 34 (nI (s1 + 1))) 71 (nI s1)) w)), (a 14, .inl (cI, 2001, .inl sf)), (a 15, .inl (cI, 2001, .inl pf))] H := hP
  have hD : va_D A [(a 36, .inl (cI, 60, .inl (upd (sa 0) s1 0))), (a 37, .inl (cI, 60, .inl (sa 1))), (a 38, .inl (cI, 60, .inl (sa 2))), (a 39, .inl (cI, 60, .inl (sa 3))), (a 40, .inl (cI, 60, .inl (sa 4))), (a 41, .inl (cI, 60, .inl (sa 5))), (a 42, .inl (cI, 60, .inl (sa 6))), (a 43, .inl (cI, 60, .inl (sa 7))), (a 35, .inl (cI, 60, .inl (sa 8))), (h0, .inr (13, moF a (upd (upd (upd (upd (upd (upd f 18 (nI x1)) 21 0) 19 1) 20 (pf x1)) 34 (nI (s1 + 1))) 71 (nI s1)) w)), (a 14, .inl (cI, 2001, .inl sf)), (a 15, .inl (cI, 2001, .inl pf))] := hD
  refine lv_aload_n hx hb dX12_selectOf_39 rfl (lv_at hl 2 rfl) ?_
  refine va_get (D := (dC, dI)) (ci := 13) (v := .ref (a 37)) (C := RX12) (T := TX12) (N := 115) hx hb hts (fun w h => List.mem_cons_of_mem _ (uG_X12 w h)) hown hK hP 9 rfl rfl 37 (by decide) (hts _ (List.mem_cons_of_mem _ kw_1728)) (fun _ h9 => h9) rfl dX12_selectOf_40 ?_
  refine lv_iload_n hx hb dX12_selectOf_43 rfl (lv_at hl 1 rfl) ?_
  refine lv_iconst (v := 0) hx hb dX12_selectOf_44 (by decide) ?_
  refine va_iast hx hb hK hP hD hS 1 1 rfl rfl (i := (nI s1)) (x := 0) (vp_in_nI (n := s1) (N := 60) (by omega) (by omega)) dX12_selectOf_45 (fun H locs hP hD hS => ?_)
  rw [show (nI s1).toNatClampNeg = s1 from nI_clamp (n := s1) (by omega)] at hP hD
  have hP : va_P (dC, dI) vwCl [(a 36, .inl (cI, 60, .inl (upd (sa 0) s1 0))), (a 37, .inl (cI, 60, .inl (upd (sa 1) s1 0))), (a 38, .inl (cI, 60, .inl (sa 2))), (a 39, .inl (cI, 60, .inl (sa 3))), (a 40, .inl (cI, 60, .inl (sa 4))), (a 41, .inl (cI, 60, .inl (sa 5))), (a 42, .inl (cI, 60, .inl (sa 6))), (a 43, .inl (cI, 60, .inl (sa 7))), (a 35, .inl (cI, 60, .inl (sa 8))), (h0, .inr (13, moF a (upd (upd (upd (upd (upd (upd f 18 (nI x1)) 21 0) 19 1) 20 (pf x1)) 34 (nI (s1 + 1))) 71 (nI s1)) w)), (a 14, .inl (cI, 2001, .inl sf)), (a 15, .inl (cI, 2001, .inl pf))] H := hP
  have hD : va_D A [(a 36, .inl (cI, 60, .inl (upd (sa 0) s1 0))), (a 37, .inl (cI, 60, .inl (upd (sa 1) s1 0))), (a 38, .inl (cI, 60, .inl (sa 2))), (a 39, .inl (cI, 60, .inl (sa 3))), (a 40, .inl (cI, 60, .inl (sa 4))), (a 41, .inl (cI, 60, .inl (sa 5))), (a 42, .inl (cI, 60, .inl (sa 6))), (a 43, .inl (cI, 60, .inl (sa 7))), (a 35, .inl (cI, 60, .inl (sa 8))), (h0, .inr (13, moF a (upd (upd (upd (upd (upd (upd f 18 (nI x1)) 21 0) 19 1) 20 (pf x1)) 34 (nI (s1 + 1))) 71 (nI s1)) w)), (a 14, .inl (cI, 2001, .inl sf)), (a 15, .inl (cI, 2001, .inl pf))] := hD
  refine lv_aload_n hx hb dX12_selectOf_46 rfl (lv_at hl 2 rfl) ?_
  refine va_get (D := (dC, dI)) (ci := 13) (v := .ref (a 38)) (C := RX12) (T := TX12) (N := 115) hx hb hts (fun w h => List.mem_cons_of_mem _ (uG_X12 w h)) hown hK hP 9 rfl rfl 38 (by decide) (hts _ (List.mem_cons_of_mem _ kw_1729)) (fun _ h9 => h9) rfl dX12_selectOf_47 ?_
  refine lv_iload_n hx hb dX12_selectOf_50 rfl (lv_at hl 1 rfl) ?_
  refine lv_iconst (v := (-1)) hx hb dX12_selectOf_51 (by decide) ?_
  refine va_iast hx hb hK hP hD hS 2 1 rfl rfl (i := (nI s1)) (x := (-1)) (vp_in_nI (n := s1) (N := 60) (by omega) (by omega)) dX12_selectOf_52 (fun H locs hP hD hS => ?_)
  rw [show (nI s1).toNatClampNeg = s1 from nI_clamp (n := s1) (by omega)] at hP hD
  have hP : va_P (dC, dI) vwCl [(a 36, .inl (cI, 60, .inl (upd (sa 0) s1 0))), (a 37, .inl (cI, 60, .inl (upd (sa 1) s1 0))), (a 38, .inl (cI, 60, .inl (upd (sa 2) s1 (-1)))), (a 39, .inl (cI, 60, .inl (sa 3))), (a 40, .inl (cI, 60, .inl (sa 4))), (a 41, .inl (cI, 60, .inl (sa 5))), (a 42, .inl (cI, 60, .inl (sa 6))), (a 43, .inl (cI, 60, .inl (sa 7))), (a 35, .inl (cI, 60, .inl (sa 8))), (h0, .inr (13, moF a (upd (upd (upd (upd (upd (upd f 18 (nI x1)) 21 0) 19 1) 20 (pf x1)) 34 (nI (s1 + 1))) 71 (nI s1)) w)), (a 14, .inl (cI, 2001, .inl sf)), (a 15, .inl (cI, 2001, .inl pf))] H := hP
  have hD : va_D A [(a 36, .inl (cI, 60, .inl (upd (sa 0) s1 0))), (a 37, .inl (cI, 60, .inl (upd (sa 1) s1 0))), (a 38, .inl (cI, 60, .inl (upd (sa 2) s1 (-1)))), (a 39, .inl (cI, 60, .inl (sa 3))), (a 40, .inl (cI, 60, .inl (sa 4))), (a 41, .inl (cI, 60, .inl (sa 5))), (a 42, .inl (cI, 60, .inl (sa 6))), (a 43, .inl (cI, 60, .inl (sa 7))), (a 35, .inl (cI, 60, .inl (sa 8))), (h0, .inr (13, moF a (upd (upd (upd (upd (upd (upd f 18 (nI x1)) 21 0) 19 1) 20 (pf x1)) 34 (nI (s1 + 1))) 71 (nI s1)) w)), (a 14, .inl (cI, 2001, .inl sf)), (a 15, .inl (cI, 2001, .inl pf))] := hD
  refine lv_aload_n hx hb dX12_selectOf_53 rfl (lv_at hl 2 rfl) ?_
  refine va_get (D := (dC, dI)) (ci := 13) (v := .ref (a 39)) (C := RX12) (T := TX12) (N := 115) hx hb hts (fun w h => List.mem_cons_of_mem _ (uG_X12 w h)) hown hK hP 9 rfl rfl 39 (by decide) (hts _ (List.mem_cons_of_mem _ kw_1730)) (fun _ h9 => h9) rfl dX12_selectOf_54 ?_
  refine lv_iload_n hx hb dX12_selectOf_57 rfl (lv_at hl 1 rfl) ?_
  refine lv_iconst (v := 0) hx hb dX12_selectOf_58 (by decide) ?_
  refine va_iast hx hb hK hP hD hS 3 1 rfl rfl (i := (nI s1)) (x := 0) (vp_in_nI (n := s1) (N := 60) (by omega) (by omega)) dX12_selectOf_59 (fun H locs hP hD hS => ?_)
  rw [show (nI s1).toNatClampNeg = s1 from nI_clamp (n := s1) (by omega)] at hP hD
  have hP : va_P (dC, dI) vwCl [(a 36, .inl (cI, 60, .inl (upd (sa 0) s1 0))), (a 37, .inl (cI, 60, .inl (upd (sa 1) s1 0))), (a 38, .inl (cI, 60, .inl (upd (sa 2) s1 (-1)))), (a 39, .inl (cI, 60, .inl (upd (sa 3) s1 0))), (a 40, .inl (cI, 60, .inl (sa 4))), (a 41, .inl (cI, 60, .inl (sa 5))), (a 42, .inl (cI, 60, .inl (sa 6))), (a 43, .inl (cI, 60, .inl (sa 7))), (a 35, .inl (cI, 60, .inl (sa 8))), (h0, .inr (13, moF a (upd (upd (upd (upd (upd (upd f 18 (nI x1)) 21 0) 19 1) 20 (pf x1)) 34 (nI (s1 + 1))) 71 (nI s1)) w)), (a 14, .inl (cI, 2001, .inl sf)), (a 15, .inl (cI, 2001, .inl pf))] H := hP
  have hD : va_D A [(a 36, .inl (cI, 60, .inl (upd (sa 0) s1 0))), (a 37, .inl (cI, 60, .inl (upd (sa 1) s1 0))), (a 38, .inl (cI, 60, .inl (upd (sa 2) s1 (-1)))), (a 39, .inl (cI, 60, .inl (upd (sa 3) s1 0))), (a 40, .inl (cI, 60, .inl (sa 4))), (a 41, .inl (cI, 60, .inl (sa 5))), (a 42, .inl (cI, 60, .inl (sa 6))), (a 43, .inl (cI, 60, .inl (sa 7))), (a 35, .inl (cI, 60, .inl (sa 8))), (h0, .inr (13, moF a (upd (upd (upd (upd (upd (upd f 18 (nI x1)) 21 0) 19 1) 20 (pf x1)) 34 (nI (s1 + 1))) 71 (nI s1)) w)), (a 14, .inl (cI, 2001, .inl sf)), (a 15, .inl (cI, 2001, .inl pf))] := hD
  refine lv_aload_n hx hb dX12_selectOf_60 rfl (lv_at hl 2 rfl) ?_
  refine va_get (D := (dC, dI)) (ci := 13) (v := .ref (a 40)) (C := RX12) (T := TX12) (N := 115) hx hb hts (fun w h => List.mem_cons_of_mem _ (uG_X12 w h)) hown hK hP 9 rfl rfl 40 (by decide) (hts _ (List.mem_cons_of_mem _ kw_1731)) (fun _ h9 => h9) rfl dX12_selectOf_61 ?_
  refine lv_iload_n hx hb dX12_selectOf_64 rfl (lv_at hl 1 rfl) ?_
  refine lv_iconst (v := (-1)) hx hb dX12_selectOf_65 (by decide) ?_
  refine va_iast hx hb hK hP hD hS 4 1 rfl rfl (i := (nI s1)) (x := (-1)) (vp_in_nI (n := s1) (N := 60) (by omega) (by omega)) dX12_selectOf_66 (fun H locs hP hD hS => ?_)
  rw [show (nI s1).toNatClampNeg = s1 from nI_clamp (n := s1) (by omega)] at hP hD
  have hP : va_P (dC, dI) vwCl [(a 36, .inl (cI, 60, .inl (upd (sa 0) s1 0))), (a 37, .inl (cI, 60, .inl (upd (sa 1) s1 0))), (a 38, .inl (cI, 60, .inl (upd (sa 2) s1 (-1)))), (a 39, .inl (cI, 60, .inl (upd (sa 3) s1 0))), (a 40, .inl (cI, 60, .inl (upd (sa 4) s1 (-1)))), (a 41, .inl (cI, 60, .inl (sa 5))), (a 42, .inl (cI, 60, .inl (sa 6))), (a 43, .inl (cI, 60, .inl (sa 7))), (a 35, .inl (cI, 60, .inl (sa 8))), (h0, .inr (13, moF a (upd (upd (upd (upd (upd (upd f 18 (nI x1)) 21 0) 19 1) 20 (pf x1)) 34 (nI (s1 + 1))) 71 (nI s1)) w)), (a 14, .inl (cI, 2001, .inl sf)), (a 15, .inl (cI, 2001, .inl pf))] H := hP
  have hD : va_D A [(a 36, .inl (cI, 60, .inl (upd (sa 0) s1 0))), (a 37, .inl (cI, 60, .inl (upd (sa 1) s1 0))), (a 38, .inl (cI, 60, .inl (upd (sa 2) s1 (-1)))), (a 39, .inl (cI, 60, .inl (upd (sa 3) s1 0))), (a 40, .inl (cI, 60, .inl (upd (sa 4) s1 (-1)))), (a 41, .inl (cI, 60, .inl (sa 5))), (a 42, .inl (cI, 60, .inl (sa 6))), (a 43, .inl (cI, 60, .inl (sa 7))), (a 35, .inl (cI, 60, .inl (sa 8))), (h0, .inr (13, moF a (upd (upd (upd (upd (upd (upd f 18 (nI x1)) 21 0) 19 1) 20 (pf x1)) 34 (nI (s1 + 1))) 71 (nI s1)) w)), (a 14, .inl (cI, 2001, .inl sf)), (a 15, .inl (cI, 2001, .inl pf))] := hD
  refine lv_aload_n hx hb dX12_selectOf_67 rfl (lv_at hl 2 rfl) ?_
  refine va_get (D := (dC, dI)) (ci := 13) (v := .ref (a 41)) (C := RX12) (T := TX12) (N := 115) hx hb hts (fun w h => List.mem_cons_of_mem _ (uG_X12 w h)) hown hK hP 9 rfl rfl 41 (by decide) (hts _ (List.mem_cons_of_mem _ kw_1732)) (fun _ h9 => h9) rfl dX12_selectOf_68 ?_
  refine lv_iload_n hx hb dX12_selectOf_71 rfl (lv_at hl 1 rfl) ?_
  refine lv_iconst (v := (-1)) hx hb dX12_selectOf_72 (by decide) ?_
  refine va_iast hx hb hK hP hD hS 5 1 rfl rfl (i := (nI s1)) (x := (-1)) (vp_in_nI (n := s1) (N := 60) (by omega) (by omega)) dX12_selectOf_73 (fun H locs hP hD hS => ?_)
  rw [show (nI s1).toNatClampNeg = s1 from nI_clamp (n := s1) (by omega)] at hP hD
  have hP : va_P (dC, dI) vwCl [(a 36, .inl (cI, 60, .inl (upd (sa 0) s1 0))), (a 37, .inl (cI, 60, .inl (upd (sa 1) s1 0))), (a 38, .inl (cI, 60, .inl (upd (sa 2) s1 (-1)))), (a 39, .inl (cI, 60, .inl (upd (sa 3) s1 0))), (a 40, .inl (cI, 60, .inl (upd (sa 4) s1 (-1)))), (a 41, .inl (cI, 60, .inl (upd (sa 5) s1 (-1)))), (a 42, .inl (cI, 60, .inl (sa 6))), (a 43, .inl (cI, 60, .inl (sa 7))), (a 35, .inl (cI, 60, .inl (sa 8))), (h0, .inr (13, moF a (upd (upd (upd (upd (upd (upd f 18 (nI x1)) 21 0) 19 1) 20 (pf x1)) 34 (nI (s1 + 1))) 71 (nI s1)) w)), (a 14, .inl (cI, 2001, .inl sf)), (a 15, .inl (cI, 2001, .inl pf))] H := hP
  have hD : va_D A [(a 36, .inl (cI, 60, .inl (upd (sa 0) s1 0))), (a 37, .inl (cI, 60, .inl (upd (sa 1) s1 0))), (a 38, .inl (cI, 60, .inl (upd (sa 2) s1 (-1)))), (a 39, .inl (cI, 60, .inl (upd (sa 3) s1 0))), (a 40, .inl (cI, 60, .inl (upd (sa 4) s1 (-1)))), (a 41, .inl (cI, 60, .inl (upd (sa 5) s1 (-1)))), (a 42, .inl (cI, 60, .inl (sa 6))), (a 43, .inl (cI, 60, .inl (sa 7))), (a 35, .inl (cI, 60, .inl (sa 8))), (h0, .inr (13, moF a (upd (upd (upd (upd (upd (upd f 18 (nI x1)) 21 0) 19 1) 20 (pf x1)) 34 (nI (s1 + 1))) 71 (nI s1)) w)), (a 14, .inl (cI, 2001, .inl sf)), (a 15, .inl (cI, 2001, .inl pf))] := hD
  refine lv_aload_n hx hb dX12_selectOf_74 rfl (lv_at hl 2 rfl) ?_
  refine va_get (D := (dC, dI)) (ci := 13) (v := .ref (a 42)) (C := RX12) (T := TX12) (N := 115) hx hb hts (fun w h => List.mem_cons_of_mem _ (uG_X12 w h)) hown hK hP 9 rfl rfl 42 (by decide) (hts _ (List.mem_cons_of_mem _ kw_1733)) (fun _ h9 => h9) rfl dX12_selectOf_75 ?_
  refine lv_iload_n hx hb dX12_selectOf_78 rfl (lv_at hl 1 rfl) ?_
  refine lv_iconst (v := 0) hx hb dX12_selectOf_79 (by decide) ?_
  refine va_iast hx hb hK hP hD hS 6 1 rfl rfl (i := (nI s1)) (x := 0) (vp_in_nI (n := s1) (N := 60) (by omega) (by omega)) dX12_selectOf_80 (fun H locs hP hD hS => ?_)
  rw [show (nI s1).toNatClampNeg = s1 from nI_clamp (n := s1) (by omega)] at hP hD
  have hP : va_P (dC, dI) vwCl [(a 36, .inl (cI, 60, .inl (upd (sa 0) s1 0))), (a 37, .inl (cI, 60, .inl (upd (sa 1) s1 0))), (a 38, .inl (cI, 60, .inl (upd (sa 2) s1 (-1)))), (a 39, .inl (cI, 60, .inl (upd (sa 3) s1 0))), (a 40, .inl (cI, 60, .inl (upd (sa 4) s1 (-1)))), (a 41, .inl (cI, 60, .inl (upd (sa 5) s1 (-1)))), (a 42, .inl (cI, 60, .inl (upd (sa 6) s1 0))), (a 43, .inl (cI, 60, .inl (sa 7))), (a 35, .inl (cI, 60, .inl (sa 8))), (h0, .inr (13, moF a (upd (upd (upd (upd (upd (upd f 18 (nI x1)) 21 0) 19 1) 20 (pf x1)) 34 (nI (s1 + 1))) 71 (nI s1)) w)), (a 14, .inl (cI, 2001, .inl sf)), (a 15, .inl (cI, 2001, .inl pf))] H := hP
  have hD : va_D A [(a 36, .inl (cI, 60, .inl (upd (sa 0) s1 0))), (a 37, .inl (cI, 60, .inl (upd (sa 1) s1 0))), (a 38, .inl (cI, 60, .inl (upd (sa 2) s1 (-1)))), (a 39, .inl (cI, 60, .inl (upd (sa 3) s1 0))), (a 40, .inl (cI, 60, .inl (upd (sa 4) s1 (-1)))), (a 41, .inl (cI, 60, .inl (upd (sa 5) s1 (-1)))), (a 42, .inl (cI, 60, .inl (upd (sa 6) s1 0))), (a 43, .inl (cI, 60, .inl (sa 7))), (a 35, .inl (cI, 60, .inl (sa 8))), (h0, .inr (13, moF a (upd (upd (upd (upd (upd (upd f 18 (nI x1)) 21 0) 19 1) 20 (pf x1)) 34 (nI (s1 + 1))) 71 (nI s1)) w)), (a 14, .inl (cI, 2001, .inl sf)), (a 15, .inl (cI, 2001, .inl pf))] := hD
  refine lv_aload_n hx hb dX12_selectOf_81 rfl (lv_at hl 2 rfl) ?_
  refine va_get (D := (dC, dI)) (ci := 13) (v := .ref (a 43)) (C := RX12) (T := TX12) (N := 115) hx hb hts (fun w h => List.mem_cons_of_mem _ (uG_X12 w h)) hown hK hP 9 rfl rfl 43 (by decide) (hts _ (List.mem_cons_of_mem _ kw_1734)) (fun _ h9 => h9) rfl dX12_selectOf_82 ?_
  refine lv_iload_n hx hb dX12_selectOf_85 rfl (lv_at hl 1 rfl) ?_
  refine lv_iconst (v := (-1)) hx hb dX12_selectOf_86 (by decide) ?_
  refine va_iast hx hb hK hP hD hS 7 1 rfl rfl (i := (nI s1)) (x := (-1)) (vp_in_nI (n := s1) (N := 60) (by omega) (by omega)) dX12_selectOf_87 (fun H locs hP hD hS => ?_)
  rw [show (nI s1).toNatClampNeg = s1 from nI_clamp (n := s1) (by omega)] at hP hD
  have hP : va_P (dC, dI) vwCl [(a 36, .inl (cI, 60, .inl (upd (sa 0) s1 0))), (a 37, .inl (cI, 60, .inl (upd (sa 1) s1 0))), (a 38, .inl (cI, 60, .inl (upd (sa 2) s1 (-1)))), (a 39, .inl (cI, 60, .inl (upd (sa 3) s1 0))), (a 40, .inl (cI, 60, .inl (upd (sa 4) s1 (-1)))), (a 41, .inl (cI, 60, .inl (upd (sa 5) s1 (-1)))), (a 42, .inl (cI, 60, .inl (upd (sa 6) s1 0))), (a 43, .inl (cI, 60, .inl (upd (sa 7) s1 (-1)))), (a 35, .inl (cI, 60, .inl (sa 8))), (h0, .inr (13, moF a (upd (upd (upd (upd (upd (upd f 18 (nI x1)) 21 0) 19 1) 20 (pf x1)) 34 (nI (s1 + 1))) 71 (nI s1)) w)), (a 14, .inl (cI, 2001, .inl sf)), (a 15, .inl (cI, 2001, .inl pf))] H := hP
  have hD : va_D A [(a 36, .inl (cI, 60, .inl (upd (sa 0) s1 0))), (a 37, .inl (cI, 60, .inl (upd (sa 1) s1 0))), (a 38, .inl (cI, 60, .inl (upd (sa 2) s1 (-1)))), (a 39, .inl (cI, 60, .inl (upd (sa 3) s1 0))), (a 40, .inl (cI, 60, .inl (upd (sa 4) s1 (-1)))), (a 41, .inl (cI, 60, .inl (upd (sa 5) s1 (-1)))), (a 42, .inl (cI, 60, .inl (upd (sa 6) s1 0))), (a 43, .inl (cI, 60, .inl (upd (sa 7) s1 (-1)))), (a 35, .inl (cI, 60, .inl (sa 8))), (h0, .inr (13, moF a (upd (upd (upd (upd (upd (upd f 18 (nI x1)) 21 0) 19 1) 20 (pf x1)) 34 (nI (s1 + 1))) 71 (nI s1)) w)), (a 14, .inl (cI, 2001, .inl sf)), (a 15, .inl (cI, 2001, .inl pf))] := hD
  refine lv_aload_n hx hb dX12_selectOf_88 rfl (lv_at hl 2 rfl) ?_
  refine va_get (D := (dC, dI)) (ci := 13) (v := .ref (a 35)) (C := RX12) (T := TX12) (N := 115) hx hb hts (fun w h => List.mem_cons_of_mem _ (uG_X12 w h)) hown hK hP 9 rfl rfl 35 (by decide) (hts _ (List.mem_cons_of_mem _ kw_1726)) (fun _ h9 => h9) rfl dX12_selectOf_89 ?_
  refine lv_iload_n hx hb dX12_selectOf_92 rfl (lv_at hl 1 rfl) ?_
  refine lv_aload_n hx hb dX12_selectOf_93 rfl (lv_at hl 2 rfl) ?_
  refine va_ldcSW (own := RX12) (index := 480) (tx := soT 4) (q := K 4) hx hb hown (hZ.ref 4 (by decide)) dX12_selectOf_94 ?_
  have hPc := hP.sub (ws' := [(h0, .inr (13, moF a (upd (upd (upd (upd (upd (upd f 18 (nI x1)) 21 0) 19 1) 20 (pf x1)) 34 (nI (s1 + 1))) 71 (nI s1)) w)), (a 14, .inl (cI, 2001, .inl sf))]) [9, 10] rfl
  have hDc := hD.sub (ws' := [(h0, .inr (13, moF a (upd (upd (upd (upd (upd (upd f 18 (nI x1)) 21 0) 19 1) 20 (pf x1)) 34 (nI (s1 + 1))) 71 (nI s1)) w)), (a 14, .inl (cI, 2001, .inl sf))]) [9, 10] (by decide) rfl
  have hKc := hK.sub (tys' := [(cB, .byte), (cI, .int), (cJ, .long), (cZ, .boolean)]) [0, 1, 2, 3] rfl
  have hFc := va_free (wc := [(h0, .inr (13, moF a (upd (upd (upd (upd (upd (upd f 18 (nI x1)) 21 0) 19 1) 20 (pf x1)) 34 (nI (s1 + 1))) 71 (nI s1)) w)), (a 14, .inl (cI, 2001, .inl sf))]) hD hS hA [9, 10] rfl
  refine va_calli (va_runV (As := [.ref (K 4)]) (rest := [.int (nI s1), .ref (a 35)]) ⟨hx, hb, hml, hown, hts⟩ (t_X12_isWord_n l dC dI H.size cB cI cJ cZ h0 a (upd (upd (upd (upd (upd (upd f 18 (nI x1)) 21 0) 19 1) 20 (pf x1)) 34 (nI (s1 + 1))) 71 (nI s1)) w x1 sf pf 4 K V fz hx1 hnw) (cwV 1 hts (gd_all (in_V kw_2242 kw_2244 kw_135 kw_191 kc_X12_isWord)) rfl rfl rfl (by decide +kernel) ⟨Nat.le_of_ble_eq_true rfl, Nat.le_of_ble_eq_true rfl⟩) ⟨fun a U g mk q => by obtain ⟨q0, q1, qP, qK, qD, qZ⟩ := q; exact ⟨q0, q1, qP, va_K.moved (u := U) (U := U.calling g mk a) (Vm.Alike.refl U.vm) qK, qD, zE.same (u := U) (U := U.calling g mk a) rfl rfl qZ⟩, va_recv hKc hPc (ci := 13) (q0 := 0) rfl rfl, fun U hU hW => ⟨rfl, by rw [hU], by rw [hU]; exact hPc, va_K.moved hW.alike hKc, hDc.weaken (fun _ _ _ _ => trivial), zE.go hZ hS hU hW hFc⟩⟩ rfl rfl hl.1 rfl (lv_room (Nat.le_of_ble_eq_true rfl)) dX12_selectOf_97 ⟨Nat.le_of_ble_eq_true rfl, Nat.le_of_ble_eq_true rfl⟩) hS (fun q _ h => hFc q h) hFc (fun r_3 u t_ H1 locs ht hvm hw hB hz1 hk1 hS => ?_)
  obtain ⟨hP1, hK1, hD1⟩ := hB
  rw [ht] at hP1
  have hK1 := va_K.moved hvm.symm hK1
  obtain ⟨hP, hD⟩ := va_join (wr := [(a 36, .inl (cI, 60, .inl (upd (sa 0) s1 0))), (a 37, .inl (cI, 60, .inl (upd (sa 1) s1 0))), (a 38, .inl (cI, 60, .inl (upd (sa 2) s1 (-1)))), (a 39, .inl (cI, 60, .inl (upd (sa 3) s1 0))), (a 40, .inl (cI, 60, .inl (upd (sa 4) s1 (-1)))), (a 41, .inl (cI, 60, .inl (upd (sa 5) s1 (-1)))), (a 42, .inl (cI, 60, .inl (upd (sa 6) s1 0))), (a 43, .inl (cI, 60, .inl (upd (sa 7) s1 (-1)))), (a 35, .inl (cI, 60, .inl (sa 8))), (a 15, .inl (cI, 2001, .inl pf))]) (w1 := [(h0, .inr (13, moF a (upd (upd (upd (upd (upd (upd f 18 (nI x1)) 21 0) 19 1) 20 (pf x1)) 34 (nI (s1 + 1))) 71 (nI s1)) w)), (a 14, .inl (cI, 2001, .inl sf))]) hP hD [9, 10] [0, 1, 2, 3, 4, 5, 6, 7, 8, 11] rfl rfl (by decide) (by decide) hk1 hFc hP1 hD1
  have hK := (hK.sub (tys' := []) [] rfl).app hK1
  generalize H1 = H at hP hS ⊢
  have hP : va_P (dC, dI) vwCl [(a 36, .inl (cI, 60, .inl (upd (sa 0) s1 0))), (a 37, .inl (cI, 60, .inl (upd (sa 1) s1 0))), (a 38, .inl (cI, 60, .inl (upd (sa 2) s1 (-1)))), (a 39, .inl (cI, 60, .inl (upd (sa 3) s1 0))), (a 40, .inl (cI, 60, .inl (upd (sa 4) s1 (-1)))), (a 41, .inl (cI, 60, .inl (upd (sa 5) s1 (-1)))), (a 42, .inl (cI, 60, .inl (upd (sa 6) s1 0))), (a 43, .inl (cI, 60, .inl (upd (sa 7) s1 (-1)))), (a 35, .inl (cI, 60, .inl (sa 8))), (a 15, .inl (cI, 2001, .inl pf)), (h0, .inr (13, moF a (upd (upd (upd (upd (upd (upd f 18 (nI x1)) 21 0) 19 1) 20 (pf x1)) 34 (nI (s1 + 1))) 71 (nI s1)) w)), (a 14, .inl (cI, 2001, .inl sf))] H := hP
  have hD : va_D A [(a 36, .inl (cI, 60, .inl (upd (sa 0) s1 0))), (a 37, .inl (cI, 60, .inl (upd (sa 1) s1 0))), (a 38, .inl (cI, 60, .inl (upd (sa 2) s1 (-1)))), (a 39, .inl (cI, 60, .inl (upd (sa 3) s1 0))), (a 40, .inl (cI, 60, .inl (upd (sa 4) s1 (-1)))), (a 41, .inl (cI, 60, .inl (upd (sa 5) s1 (-1)))), (a 42, .inl (cI, 60, .inl (upd (sa 6) s1 0))), (a 43, .inl (cI, 60, .inl (upd (sa 7) s1 (-1)))), (a 35, .inl (cI, 60, .inl (sa 8))), (a 15, .inl (cI, 2001, .inl pf)), (h0, .inr (13, moF a (upd (upd (upd (upd (upd (upd f 18 (nI x1)) 21 0) 19 1) 20 (pf x1)) 34 (nI (s1 + 1))) 71 (nI s1)) w)), (a 14, .inl (cI, 2001, .inl sf))] := hD
  have hK : va_K (dC, dI) vwCl [(cB, .byte), (cI, .int), (cJ, .long), (cZ, .boolean)] s := hK
  have er_3 : r_3 = 0 := hw
  rw [er_3]
  refine lv_if_eq (tgt := 115) hx hb dX12_selectOf_100 (by decide) (fun c_4 => ?_) (fun c_4 => ?_)
  · skip
    refine lv_iconst (v := (-1)) hx hb dX12_selectOf_115 (by decide) ?_
    refine va_iast hx hb hK hP hD hS 8 1 rfl rfl (i := (nI s1)) (x := (-1)) (vp_in_nI (n := s1) (N := 60) (by omega) (by omega)) dX12_selectOf_116 (fun H locs hP hD hS => ?_)
    rw [show (nI s1).toNatClampNeg = s1 from nI_clamp (n := s1) (by omega)] at hP hD
    have hP : va_P (dC, dI) vwCl [(a 36, .inl (cI, 60, .inl (upd (sa 0) s1 0))), (a 37, .inl (cI, 60, .inl (upd (sa 1) s1 0))), (a 38, .inl (cI, 60, .inl (upd (sa 2) s1 (-1)))), (a 39, .inl (cI, 60, .inl (upd (sa 3) s1 0))), (a 40, .inl (cI, 60, .inl (upd (sa 4) s1 (-1)))), (a 41, .inl (cI, 60, .inl (upd (sa 5) s1 (-1)))), (a 42, .inl (cI, 60, .inl (upd (sa 6) s1 0))), (a 43, .inl (cI, 60, .inl (upd (sa 7) s1 (-1)))), (a 35, .inl (cI, 60, .inl (upd (sa 8) s1 (-1)))), (a 15, .inl (cI, 2001, .inl pf)), (h0, .inr (13, moF a (upd (upd (upd (upd (upd (upd f 18 (nI x1)) 21 0) 19 1) 20 (pf x1)) 34 (nI (s1 + 1))) 71 (nI s1)) w)), (a 14, .inl (cI, 2001, .inl sf))] H := hP
    have hD : va_D A [(a 36, .inl (cI, 60, .inl (upd (sa 0) s1 0))), (a 37, .inl (cI, 60, .inl (upd (sa 1) s1 0))), (a 38, .inl (cI, 60, .inl (upd (sa 2) s1 (-1)))), (a 39, .inl (cI, 60, .inl (upd (sa 3) s1 0))), (a 40, .inl (cI, 60, .inl (upd (sa 4) s1 (-1)))), (a 41, .inl (cI, 60, .inl (upd (sa 5) s1 (-1)))), (a 42, .inl (cI, 60, .inl (upd (sa 6) s1 0))), (a 43, .inl (cI, 60, .inl (upd (sa 7) s1 (-1)))), (a 35, .inl (cI, 60, .inl (upd (sa 8) s1 (-1)))), (a 15, .inl (cI, 2001, .inl pf)), (h0, .inr (13, moF a (upd (upd (upd (upd (upd (upd f 18 (nI x1)) 21 0) 19 1) 20 (pf x1)) 34 (nI (s1 + 1))) 71 (nI s1)) w)), (a 14, .inl (cI, 2001, .inl sf))] := hD
    refine lv_aload_n hx hb dX12_selectOf_117 rfl (lv_at hl 2 rfl) ?_
    refine va_ldcSW (own := RX12) (index := 480) (tx := soT 4) (q := K 4) hx hb hown (hZ.ref 4 (by decide)) dX12_selectOf_118 ?_
    have hPc := hP.sub (ws' := [(h0, .inr (13, moF a (upd (upd (upd (upd (upd (upd f 18 (nI x1)) 21 0) 19 1) 20 (pf x1)) 34 (nI (s1 + 1))) 71 (nI s1)) w)), (a 14, .inl (cI, 2001, .inl sf))]) [10, 11] rfl
    have hDc := hD.sub (ws' := [(h0, .inr (13, moF a (upd (upd (upd (upd (upd (upd f 18 (nI x1)) 21 0) 19 1) 20 (pf x1)) 34 (nI (s1 + 1))) 71 (nI s1)) w)), (a 14, .inl (cI, 2001, .inl sf))]) [10, 11] (by decide) rfl
    have hKc := hK.sub (tys' := [(cB, .byte), (cI, .int), (cJ, .long), (cZ, .boolean)]) [0, 1, 2, 3] rfl
    have hFc := va_free (wc := [(h0, .inr (13, moF a (upd (upd (upd (upd (upd (upd f 18 (nI x1)) 21 0) 19 1) 20 (pf x1)) 34 (nI (s1 + 1))) 71 (nI s1)) w)), (a 14, .inl (cI, 2001, .inl sf))]) hD hS hA [10, 11] rfl
    refine va_calli (va_runV (As := [.ref (K 4)]) (rest := []) ⟨hx, hb, hml, hown, hts⟩ (t_X12_takeWord_n l dC dI H.size cB cI cJ cZ h0 a (upd (upd (upd (upd (upd (upd f 18 (nI x1)) 21 0) 19 1) 20 (pf x1)) 34 (nI (s1 + 1))) 71 (nI s1)) w x1 sf pf 4 K V fz hx1 hnw) (cwV 1 hts (gd_all (in_V kw_2238 kw_2240 kw_134 kw_191 kc_X12_takeWord)) rfl rfl rfl (by decide +kernel) ⟨Nat.le_of_ble_eq_true rfl, Nat.le_of_ble_eq_true rfl⟩) ⟨fun a U g mk q => by obtain ⟨q0, q1, qP, qK, qD, qZ⟩ := q; exact ⟨q0, q1, qP, va_K.moved (u := U) (U := U.calling g mk a) (Vm.Alike.refl U.vm) qK, qD, zE.same (u := U) (U := U.calling g mk a) rfl rfl qZ⟩, va_recv hKc hPc (ci := 13) (q0 := 0) rfl rfl, fun U hU hW => ⟨rfl, by rw [hU], by rw [hU]; exact hPc, va_K.moved hW.alike hKc, hDc.weaken (fun _ _ _ _ => trivial), zE.go hZ hS hU hW hFc⟩⟩ rfl rfl hl.1 rfl (lv_room (Nat.le_of_ble_eq_true rfl)) dX12_selectOf_121 ⟨Nat.le_of_ble_eq_true rfl, Nat.le_of_ble_eq_true rfl⟩) hS (fun q _ h => hFc q h) hFc (fun r_5 u t_ H1 locs ht hvm hw hB hz1 hk1 hS => ?_)
    obtain ⟨hP1, hK1, hD1⟩ := hB
    rw [ht] at hP1
    have hK1 := va_K.moved hvm.symm hK1
    obtain ⟨hP, hD⟩ := va_join (wr := [(a 36, .inl (cI, 60, .inl (upd (sa 0) s1 0))), (a 37, .inl (cI, 60, .inl (upd (sa 1) s1 0))), (a 38, .inl (cI, 60, .inl (upd (sa 2) s1 (-1)))), (a 39, .inl (cI, 60, .inl (upd (sa 3) s1 0))), (a 40, .inl (cI, 60, .inl (upd (sa 4) s1 (-1)))), (a 41, .inl (cI, 60, .inl (upd (sa 5) s1 (-1)))), (a 42, .inl (cI, 60, .inl (upd (sa 6) s1 0))), (a 43, .inl (cI, 60, .inl (upd (sa 7) s1 (-1)))), (a 35, .inl (cI, 60, .inl (upd (sa 8) s1 (-1)))), (a 15, .inl (cI, 2001, .inl pf))]) (w1 := [(h0, .inr (13, moF a (upd (upd (upd (upd (upd (upd f 18 (nI x1)) 21 0) 19 1) 20 (pf x1)) 34 (nI (s1 + 1))) 71 (nI s1)) w)), (a 14, .inl (cI, 2001, .inl sf))]) hP hD [10, 11] [0, 1, 2, 3, 4, 5, 6, 7, 8, 9] rfl rfl (by decide) (by decide) hk1 hFc hP1 hD1
    have hK := (hK.sub (tys' := []) [] rfl).app hK1
    generalize H1 = H at hP hS ⊢
    have hP : va_P (dC, dI) vwCl [(a 36, .inl (cI, 60, .inl (upd (sa 0) s1 0))), (a 37, .inl (cI, 60, .inl (upd (sa 1) s1 0))), (a 38, .inl (cI, 60, .inl (upd (sa 2) s1 (-1)))), (a 39, .inl (cI, 60, .inl (upd (sa 3) s1 0))), (a 40, .inl (cI, 60, .inl (upd (sa 4) s1 (-1)))), (a 41, .inl (cI, 60, .inl (upd (sa 5) s1 (-1)))), (a 42, .inl (cI, 60, .inl (upd (sa 6) s1 0))), (a 43, .inl (cI, 60, .inl (upd (sa 7) s1 (-1)))), (a 35, .inl (cI, 60, .inl (upd (sa 8) s1 (-1)))), (a 15, .inl (cI, 2001, .inl pf)), (h0, .inr (13, moF a (upd (upd (upd (upd (upd (upd f 18 (nI x1)) 21 0) 19 1) 20 (pf x1)) 34 (nI (s1 + 1))) 71 (nI s1)) w)), (a 14, .inl (cI, 2001, .inl sf))] H := hP
    have hD : va_D A [(a 36, .inl (cI, 60, .inl (upd (sa 0) s1 0))), (a 37, .inl (cI, 60, .inl (upd (sa 1) s1 0))), (a 38, .inl (cI, 60, .inl (upd (sa 2) s1 (-1)))), (a 39, .inl (cI, 60, .inl (upd (sa 3) s1 0))), (a 40, .inl (cI, 60, .inl (upd (sa 4) s1 (-1)))), (a 41, .inl (cI, 60, .inl (upd (sa 5) s1 (-1)))), (a 42, .inl (cI, 60, .inl (upd (sa 6) s1 0))), (a 43, .inl (cI, 60, .inl (upd (sa 7) s1 (-1)))), (a 35, .inl (cI, 60, .inl (upd (sa 8) s1 (-1)))), (a 15, .inl (cI, 2001, .inl pf)), (h0, .inr (13, moF a (upd (upd (upd (upd (upd (upd f 18 (nI x1)) 21 0) 19 1) 20 (pf x1)) 34 (nI (s1 + 1))) 71 (nI s1)) w)), (a 14, .inl (cI, 2001, .inl sf))] := hD
    have hK : va_K (dC, dI) vwCl [(cB, .byte), (cI, .int), (cJ, .long), (cZ, .boolean)] s := hK
    have er_5 : r_5 = 0 := hw
    rw [er_5]
    refine lv_istore_n (lv' := [(3, .int 0), (2, .int (f 71)), (1, .int (nI s1)), (0, .ref h0)]) hx hb dX12_selectOf_124 rfl hl (by decide) rfl (fun ls hl => ?_)
    refine lv_iconst (v := 1) hx hb dX12_selectOf_125 (by decide) ?_
    refine lv_istore (lv' := [(4, .int 1), (3, .int 0), (2, .int (f 71)), (1, .int (nI s1)), (0, .ref h0)]) hx hb dX12_selectOf_126 hl (by decide) rfl (fun ls hl => ?_)
    refine lv_aload_n hx hb dX12_selectOf_128 rfl (lv_at hl 4 rfl) ?_
    refine lv_iconst (v := 1) hx hb dX12_selectOf_129 (by decide) ?_
    refine va_put (D := (dC, dI)) (ci := 13) (v := .int 1) (ty := .boolean) (C := RX12) (T := TX12) (N := 115) hx hb hts (fun w h => List.mem_cons_of_mem _ (uG_X12 w h)) tyX12 tyX12_ok nmX12 hown hK hP hD hS 10 rfl rfl 72 (by decide) (hts _ (List.mem_cons_of_mem _ kw_1763)) (fun _ h9 => h9) rfl (by decide +kernel) rfl rfl (Nat.le_of_ble_eq_true rfl) dX12_selectOf_130 (fun H locs hP hD hS => ?_)
    have hP : va_P (dC, dI) vwCl [(a 36, .inl (cI, 60, .inl (upd (sa 0) s1 0))), (a 37, .inl (cI, 60, .inl (upd (sa 1) s1 0))), (a 38, .inl (cI, 60, .inl (upd (sa 2) s1 (-1)))), (a 39, .inl (cI, 60, .inl (upd (sa 3) s1 0))), (a 40, .inl (cI, 60, .inl (upd (sa 4) s1 (-1)))), (a 41, .inl (cI, 60, .inl (upd (sa 5) s1 (-1)))), (a 42, .inl (cI, 60, .inl (upd (sa 6) s1 0))), (a 43, .inl (cI, 60, .inl (upd (sa 7) s1 (-1)))), (a 35, .inl (cI, 60, .inl (upd (sa 8) s1 (-1)))), (a 15, .inl (cI, 2001, .inl pf)), (h0, .inr (13, moF a (upd (upd (upd (upd (upd (upd (upd f 18 (nI x1)) 21 0) 19 1) 20 (pf x1)) 34 (nI (s1 + 1))) 71 (nI s1)) 72 1) w)), (a 14, .inl (cI, 2001, .inl sf))] H := hP
    have hD : va_D A [(a 36, .inl (cI, 60, .inl (upd (sa 0) s1 0))), (a 37, .inl (cI, 60, .inl (upd (sa 1) s1 0))), (a 38, .inl (cI, 60, .inl (upd (sa 2) s1 (-1)))), (a 39, .inl (cI, 60, .inl (upd (sa 3) s1 0))), (a 40, .inl (cI, 60, .inl (upd (sa 4) s1 (-1)))), (a 41, .inl (cI, 60, .inl (upd (sa 5) s1 (-1)))), (a 42, .inl (cI, 60, .inl (upd (sa 6) s1 0))), (a 43, .inl (cI, 60, .inl (upd (sa 7) s1 (-1)))), (a 35, .inl (cI, 60, .inl (upd (sa 8) s1 (-1)))), (a 15, .inl (cI, 2001, .inl pf)), (h0, .inr (13, moF a (upd (upd (upd (upd (upd (upd (upd f 18 (nI x1)) 21 0) 19 1) 20 (pf x1)) 34 (nI (s1 + 1))) 71 (nI s1)) 72 1) w)), (a 14, .inl (cI, 2001, .inl sf))] := hD
    refine lv_iload hx hb dX12_selectOf_133 (lv_at hl 0 rfl) ?_
    refine lv_if_eq (tgt := 356) hx hb dX12_selectOf_135 (by decide) (fun c_6 => ?_) (fun c_6 => ?_)
    · skip
      exact absurd c_6 (by decide)
    · skip
      refine lv_aload_n hx hb dX12_selectOf_138 rfl (lv_at hl 4 rfl) ?_
      refine va_get (D := (dC, dI)) (ci := 13) (v := .int 0) (C := RX12) (T := TX12) (N := 115) hx hb hts (fun w h => List.mem_cons_of_mem _ (uG_X12 w h)) hown hK hP 10 rfl rfl 21 (by decide) (hts _ (List.mem_cons_of_mem _ kw_1712)) (fun _ h9 => h9) rfl dX12_selectOf_139 ?_
      refine lv_if_eq (tgt := 356) hx hb dX12_selectOf_142 (by decide) (fun c_7 => ?_) (fun c_7 => ?_)
      · skip
        refine lv_aload_n hx hb dX12_selectOf_356 rfl (lv_at hl 4 rfl) ?_
        refine lv_iconst (v := 0) hx hb dX12_selectOf_357 (by decide) ?_
        refine va_put (D := (dC, dI)) (ci := 13) (v := .int 0) (ty := .boolean) (C := RX12) (T := TX12) (N := 115) hx hb hts (fun w h => List.mem_cons_of_mem _ (uG_X12 w h)) tyX12 tyX12_ok nmX12 hown hK hP hD hS 10 rfl rfl 72 (by decide) (hts _ (List.mem_cons_of_mem _ kw_1763)) (fun _ h9 => h9) rfl (by decide +kernel) rfl rfl (Nat.le_of_ble_eq_true rfl) dX12_selectOf_358 (fun H locs hP hD hS => ?_)
        have hP : va_P (dC, dI) vwCl [(a 36, .inl (cI, 60, .inl (upd (sa 0) s1 0))), (a 37, .inl (cI, 60, .inl (upd (sa 1) s1 0))), (a 38, .inl (cI, 60, .inl (upd (sa 2) s1 (-1)))), (a 39, .inl (cI, 60, .inl (upd (sa 3) s1 0))), (a 40, .inl (cI, 60, .inl (upd (sa 4) s1 (-1)))), (a 41, .inl (cI, 60, .inl (upd (sa 5) s1 (-1)))), (a 42, .inl (cI, 60, .inl (upd (sa 6) s1 0))), (a 43, .inl (cI, 60, .inl (upd (sa 7) s1 (-1)))), (a 35, .inl (cI, 60, .inl (upd (sa 8) s1 (-1)))), (a 15, .inl (cI, 2001, .inl pf)), (h0, .inr (13, moF a (upd (upd (upd (upd (upd (upd (upd f 18 (nI x1)) 21 0) 19 1) 20 (pf x1)) 34 (nI (s1 + 1))) 71 (nI s1)) 72 0) w)), (a 14, .inl (cI, 2001, .inl sf))] H := hP
        have hD : va_D A [(a 36, .inl (cI, 60, .inl (upd (sa 0) s1 0))), (a 37, .inl (cI, 60, .inl (upd (sa 1) s1 0))), (a 38, .inl (cI, 60, .inl (upd (sa 2) s1 (-1)))), (a 39, .inl (cI, 60, .inl (upd (sa 3) s1 0))), (a 40, .inl (cI, 60, .inl (upd (sa 4) s1 (-1)))), (a 41, .inl (cI, 60, .inl (upd (sa 5) s1 (-1)))), (a 42, .inl (cI, 60, .inl (upd (sa 6) s1 0))), (a 43, .inl (cI, 60, .inl (upd (sa 7) s1 (-1)))), (a 35, .inl (cI, 60, .inl (upd (sa 8) s1 (-1)))), (a 15, .inl (cI, 2001, .inl pf)), (h0, .inr (13, moF a (upd (upd (upd (upd (upd (upd (upd f 18 (nI x1)) 21 0) 19 1) 20 (pf x1)) 34 (nI (s1 + 1))) 71 (nI s1)) 72 0) w)), (a 14, .inl (cI, 2001, .inl sf))] := hD
        refine lv_aload_n hx hb dX12_selectOf_361 rfl (lv_at hl 4 rfl) ?_
        refine va_ldcSW (own := RX12) (index := 484) (tx := soT 26) (q := K 26) hx hb hown (hZ.ref 26 (by decide)) dX12_selectOf_362 ?_
        have hPc := hP.sub (ws' := [(h0, .inr (13, moF a (upd (upd (upd (upd (upd (upd (upd f 18 (nI x1)) 21 0) 19 1) 20 (pf x1)) 34 (nI (s1 + 1))) 71 (nI s1)) 72 0) w)), (a 14, .inl (cI, 2001, .inl sf)), (a 15, .inl (cI, 2001, .inl pf))]) [10, 11, 9] rfl
        have hDc := hD.sub (ws' := [(h0, .inr (13, moF a (upd (upd (upd (upd (upd (upd (upd f 18 (nI x1)) 21 0) 19 1) 20 (pf x1)) 34 (nI (s1 + 1))) 71 (nI s1)) 72 0) w)), (a 14, .inl (cI, 2001, .inl sf)), (a 15, .inl (cI, 2001, .inl pf))]) [10, 11, 9] (by decide) rfl
        have hKc := hK.sub (tys' := [(cB, .byte), (cI, .int), (cJ, .long), (cZ, .boolean)]) [0, 1, 2, 3] rfl
        have hFc := va_free (wc := [(h0, .inr (13, moF a (upd (upd (upd (upd (upd (upd (upd f 18 (nI x1)) 21 0) 19 1) 20 (pf x1)) 34 (nI (s1 + 1))) 71 (nI s1)) 72 0) w)), (a 14, .inl (cI, 2001, .inl sf)), (a 15, .inl (cI, 2001, .inl pf))]) hD hS hA [10, 11, 9] rfl
        refine va_callv (va_runV (As := [.ref (K 26)]) (rest := []) ⟨hx, hb, hml, hown, hts⟩ (t_X12_needWord_0 l dC dI H.size cB cI cJ cZ h0 a (upd (upd (upd (upd (upd (upd (upd f 18 (nI x1)) 21 0) 19 1) 20 (pf x1)) 34 (nI (s1 + 1))) 71 (nI s1)) 72 0) w x1 sf pf 26 K V fz hx1 rfl) (cwV 1 hts (gd_all (in_V kw_2261 kw_2263 kw_139 kw_191 kc_X12_needWord)) rfl rfl rfl (by decide +kernel) ⟨Nat.le_of_ble_eq_true rfl, Nat.le_of_ble_eq_true rfl⟩) ⟨fun a U g mk q => by obtain ⟨q0, q1, qP, qK, qD, qZ⟩ := q; exact ⟨q0, q1, qP, va_K.moved (u := U) (U := U.calling g mk a) (Vm.Alike.refl U.vm) qK, qD, zE.same (u := U) (U := U.calling g mk a) rfl rfl qZ⟩, va_recv hKc hPc (ci := 13) (q0 := 0) rfl rfl, fun U hU hW => ⟨rfl, by rw [hU], by rw [hU]; exact hPc, va_K.moved hW.alike hKc, hDc.weaken (fun _ _ _ _ => trivial), zE.go hZ hS hU hW hFc⟩⟩ rfl rfl hl.1 rfl (lv_room (Nat.le_of_ble_eq_true rfl)) dX12_selectOf_365 ⟨Nat.le_of_ble_eq_true rfl, Nat.le_of_ble_eq_true rfl⟩) hS (fun q _ h => hFc q h) hFc (fun u t_ H1 locs ht hvm hw hB hz1 hk1 hS => ?_)
        obtain ⟨hP1, hK1, hD1⟩ := hB
        rw [ht] at hP1
        have hK1 := va_K.moved hvm.symm hK1
        obtain ⟨hP, hD⟩ := va_join (wr := [(a 36, .inl (cI, 60, .inl (upd (sa 0) s1 0))), (a 37, .inl (cI, 60, .inl (upd (sa 1) s1 0))), (a 38, .inl (cI, 60, .inl (upd (sa 2) s1 (-1)))), (a 39, .inl (cI, 60, .inl (upd (sa 3) s1 0))), (a 40, .inl (cI, 60, .inl (upd (sa 4) s1 (-1)))), (a 41, .inl (cI, 60, .inl (upd (sa 5) s1 (-1)))), (a 42, .inl (cI, 60, .inl (upd (sa 6) s1 0))), (a 43, .inl (cI, 60, .inl (upd (sa 7) s1 (-1)))), (a 35, .inl (cI, 60, .inl (upd (sa 8) s1 (-1))))]) (w1 := [(h0, .inr (13, moF a (upd (upd (upd (upd (upd (upd (upd f 18 (nI x1)) 21 0) 19 1) 20 (pf x1)) 34 (nI (s1 + 1))) 71 (nI s1)) 72 0) w)), (a 14, .inl (cI, 2001, .inl sf)), (a 15, .inl (cI, 2001, .inl pf))]) hP hD [10, 11, 9] [0, 1, 2, 3, 4, 5, 6, 7, 8] rfl rfl (by decide) (by decide) hk1 hFc hP1 hD1
        have hK := (hK.sub (tys' := []) [] rfl).app hK1
        generalize H1 = H at hP hS ⊢
        have hP : va_P (dC, dI) vwCl [(a 36, .inl (cI, 60, .inl (upd (sa 0) s1 0))), (a 37, .inl (cI, 60, .inl (upd (sa 1) s1 0))), (a 38, .inl (cI, 60, .inl (upd (sa 2) s1 (-1)))), (a 39, .inl (cI, 60, .inl (upd (sa 3) s1 0))), (a 40, .inl (cI, 60, .inl (upd (sa 4) s1 (-1)))), (a 41, .inl (cI, 60, .inl (upd (sa 5) s1 (-1)))), (a 42, .inl (cI, 60, .inl (upd (sa 6) s1 0))), (a 43, .inl (cI, 60, .inl (upd (sa 7) s1 (-1)))), (a 35, .inl (cI, 60, .inl (upd (sa 8) s1 (-1)))), (h0, .inr (13, moF a (upd (upd (upd (upd (upd (upd (upd f 18 (nI x1)) 21 0) 19 1) 20 (pf x1)) 34 (nI (s1 + 1))) 71 (nI s1)) 72 0) w)), (a 14, .inl (cI, 2001, .inl sf)), (a 15, .inl (cI, 2001, .inl pf))] H := hP
        have hD : va_D A [(a 36, .inl (cI, 60, .inl (upd (sa 0) s1 0))), (a 37, .inl (cI, 60, .inl (upd (sa 1) s1 0))), (a 38, .inl (cI, 60, .inl (upd (sa 2) s1 (-1)))), (a 39, .inl (cI, 60, .inl (upd (sa 3) s1 0))), (a 40, .inl (cI, 60, .inl (upd (sa 4) s1 (-1)))), (a 41, .inl (cI, 60, .inl (upd (sa 5) s1 (-1)))), (a 42, .inl (cI, 60, .inl (upd (sa 6) s1 0))), (a 43, .inl (cI, 60, .inl (upd (sa 7) s1 (-1)))), (a 35, .inl (cI, 60, .inl (upd (sa 8) s1 (-1)))), (h0, .inr (13, moF a (upd (upd (upd (upd (upd (upd (upd f 18 (nI x1)) 21 0) 19 1) 20 (pf x1)) 34 (nI (s1 + 1))) 71 (nI s1)) 72 0) w)), (a 14, .inl (cI, 2001, .inl sf)), (a 15, .inl (cI, 2001, .inl pf))] := hD
        have hK : va_K (dC, dI) vwCl [(cB, .byte), (cI, .int), (cJ, .long), (cZ, .boolean)] s := hK
        refine lv_aload_n hx hb dX12_selectOf_368 rfl (lv_at hl 4 rfl) ?_
        refine lv_iload_n hx hb dX12_selectOf_369 rfl (lv_at hl 3 rfl) ?_
        refine lv_iconst (v := 0) hx hb dX12_selectOf_370 (by decide) ?_
        refine lv_iconst (v := (-1)) hx hb dX12_selectOf_371 (by decide) ?_
        have hPc := hP.sub (ws' := [(h0, .inr (13, moF a (upd (upd (upd (upd (upd (upd (upd f 18 (nI x1)) 21 0) 19 1) 20 (pf x1)) 34 (nI (s1 + 1))) 71 (nI s1)) 72 0) w))]) [9] rfl
        have hDc := hD.sub (ws' := [(h0, .inr (13, moF a (upd (upd (upd (upd (upd (upd (upd f 18 (nI x1)) 21 0) 19 1) 20 (pf x1)) 34 (nI (s1 + 1))) 71 (nI s1)) 72 0) w))]) [9] (by decide) rfl
        have hKc := hK.sub (tys' := [(cB, .byte), (cI, .int), (cJ, .long), (cZ, .boolean)]) [0, 1, 2, 3] rfl
        have hFc := va_free (wc := [(h0, .inr (13, moF a (upd (upd (upd (upd (upd (upd (upd f 18 (nI x1)) 21 0) 19 1) 20 (pf x1)) 34 (nI (s1 + 1))) 71 (nI s1)) 72 0) w))]) hD hS hA [9] rfl
        refine va_callv (va_runV (As := [.int (nI s1), .int 0, .int (-1)]) (rest := []) ⟨hx, hb, hml, hown, hts⟩ (t_X12_source_0 l dC dI H.size cB cI cJ cZ h0 a (upd (upd (upd (upd (upd (upd (upd f 18 (nI x1)) 21 0) 19 1) 20 (pf x1)) 34 (nI (s1 + 1))) 71 (nI s1)) 72 0) w (nI s1) 0 (-1) rfl) (cwV 3 hts (gd_all (in_V kw_2372 kw_2374 kw_161 kw_191 kc_X12_source)) rfl rfl rfl (by decide +kernel) ⟨Nat.le_of_ble_eq_true rfl, Nat.le_of_ble_eq_true rfl⟩) ⟨fun a U g mk q => by obtain ⟨q0, q1, qP, qK, qD⟩ := q; exact ⟨q0, q1, qP, va_K.moved (u := U) (U := U.calling g mk a) (Vm.Alike.refl U.vm) qK, qD⟩, va_recv hKc hPc (ci := 13) (q0 := 0) rfl rfl, fun U hU hW => ⟨rfl, by rw [hU], by rw [hU]; exact hPc, va_K.moved hW.alike hKc, hDc.weaken (fun _ _ _ _ => trivial)⟩⟩ rfl rfl hl.1 rfl (lv_room (Nat.le_of_ble_eq_true rfl)) dX12_selectOf_372 ⟨Nat.le_of_ble_eq_true rfl, Nat.le_of_ble_eq_true rfl⟩) hS (fun q _ h => hFc q h) hFc (fun u t_ H1 locs ht hvm hw hB hz1 hk1 hS => ?_)
        obtain ⟨hP1, hK1, hD1⟩ := hB
        rw [ht] at hP1
        have hK1 := va_K.moved hvm.symm hK1
        obtain ⟨hP, hD⟩ := va_join (wr := [(a 36, .inl (cI, 60, .inl (upd (sa 0) s1 0))), (a 37, .inl (cI, 60, .inl (upd (sa 1) s1 0))), (a 38, .inl (cI, 60, .inl (upd (sa 2) s1 (-1)))), (a 39, .inl (cI, 60, .inl (upd (sa 3) s1 0))), (a 40, .inl (cI, 60, .inl (upd (sa 4) s1 (-1)))), (a 41, .inl (cI, 60, .inl (upd (sa 5) s1 (-1)))), (a 42, .inl (cI, 60, .inl (upd (sa 6) s1 0))), (a 43, .inl (cI, 60, .inl (upd (sa 7) s1 (-1)))), (a 35, .inl (cI, 60, .inl (upd (sa 8) s1 (-1)))), (a 14, .inl (cI, 2001, .inl sf)), (a 15, .inl (cI, 2001, .inl pf))]) (w1 := [(h0, .inr (13, moF a (upd (upd (upd (upd (upd (upd (upd f 18 (nI x1)) 21 0) 19 1) 20 (pf x1)) 34 (nI (s1 + 1))) 71 (nI s1)) 72 0) w))]) hP hD [9] [0, 1, 2, 3, 4, 5, 6, 7, 8, 10, 11] rfl rfl (by decide) (by decide) hk1 hFc hP1 hD1
        have hK := (hK.sub (tys' := []) [] rfl).app hK1
        generalize H1 = H at hP hS ⊢
        have hP : va_P (dC, dI) vwCl [(a 36, .inl (cI, 60, .inl (upd (sa 0) s1 0))), (a 37, .inl (cI, 60, .inl (upd (sa 1) s1 0))), (a 38, .inl (cI, 60, .inl (upd (sa 2) s1 (-1)))), (a 39, .inl (cI, 60, .inl (upd (sa 3) s1 0))), (a 40, .inl (cI, 60, .inl (upd (sa 4) s1 (-1)))), (a 41, .inl (cI, 60, .inl (upd (sa 5) s1 (-1)))), (a 42, .inl (cI, 60, .inl (upd (sa 6) s1 0))), (a 43, .inl (cI, 60, .inl (upd (sa 7) s1 (-1)))), (a 35, .inl (cI, 60, .inl (upd (sa 8) s1 (-1)))), (a 14, .inl (cI, 2001, .inl sf)), (a 15, .inl (cI, 2001, .inl pf)), (h0, .inr (13, moF a (upd (upd (upd (upd (upd (upd (upd f 18 (nI x1)) 21 0) 19 1) 20 (pf x1)) 34 (nI (s1 + 1))) 71 (nI s1)) 72 0) w))] H := hP
        have hD : va_D A [(a 36, .inl (cI, 60, .inl (upd (sa 0) s1 0))), (a 37, .inl (cI, 60, .inl (upd (sa 1) s1 0))), (a 38, .inl (cI, 60, .inl (upd (sa 2) s1 (-1)))), (a 39, .inl (cI, 60, .inl (upd (sa 3) s1 0))), (a 40, .inl (cI, 60, .inl (upd (sa 4) s1 (-1)))), (a 41, .inl (cI, 60, .inl (upd (sa 5) s1 (-1)))), (a 42, .inl (cI, 60, .inl (upd (sa 6) s1 0))), (a 43, .inl (cI, 60, .inl (upd (sa 7) s1 (-1)))), (a 35, .inl (cI, 60, .inl (upd (sa 8) s1 (-1)))), (a 14, .inl (cI, 2001, .inl sf)), (a 15, .inl (cI, 2001, .inl pf)), (h0, .inr (13, moF a (upd (upd (upd (upd (upd (upd (upd f 18 (nI x1)) 21 0) 19 1) 20 (pf x1)) 34 (nI (s1 + 1))) 71 (nI s1)) 72 0) w))] := hD
        have hK : va_K (dC, dI) vwCl [(cB, .byte), (cI, .int), (cJ, .long), (cZ, .boolean)] s := hK
        refine lv_aload_n hx hb dX12_selectOf_375 rfl (lv_at hl 4 rfl) ?_
        refine va_get (D := (dC, dI)) (ci := 13) (v := .int 0) (C := RX12) (T := TX12) (N := 115) hx hb hts (fun w h => List.mem_cons_of_mem _ (uG_X12 w h)) hown hK hP 11 rfl rfl 21 (by decide) (hts _ (List.mem_cons_of_mem _ kw_1712)) (fun _ h9 => h9) rfl dX12_selectOf_376 ?_
        refine lv_if_eq (tgt := 503) hx hb dX12_selectOf_379 (by decide) (fun c_10 => ?_) (fun c_10 => ?_)
        · skip
          refine lv_aload_n hx hb dX12_selectOf_503 rfl (lv_at hl 4 rfl) ?_
          refine lv_iload_n hx hb dX12_selectOf_504 rfl (lv_at hl 3 rfl) ?_
          refine va_put (D := (dC, dI)) (ci := 13) (v := .int (nI s1)) (ty := .int) (C := RX12) (T := TX12) (N := 115) hx hb hts (fun w h => List.mem_cons_of_mem _ (uG_X12 w h)) tyX12 tyX12_ok nmX12 hown hK hP hD hS 11 rfl rfl 71 (by decide) (hts _ (List.mem_cons_of_mem _ kw_1762)) (fun _ h9 => h9) rfl (by decide +kernel) rfl rfl (Nat.le_of_ble_eq_true rfl) dX12_selectOf_505 (fun H locs hP hD hS => ?_)
          have hP : va_P (dC, dI) vwCl [(a 36, .inl (cI, 60, .inl (upd (sa 0) s1 0))), (a 37, .inl (cI, 60, .inl (upd (sa 1) s1 0))), (a 38, .inl (cI, 60, .inl (upd (sa 2) s1 (-1)))), (a 39, .inl (cI, 60, .inl (upd (sa 3) s1 0))), (a 40, .inl (cI, 60, .inl (upd (sa 4) s1 (-1)))), (a 41, .inl (cI, 60, .inl (upd (sa 5) s1 (-1)))), (a 42, .inl (cI, 60, .inl (upd (sa 6) s1 0))), (a 43, .inl (cI, 60, .inl (upd (sa 7) s1 (-1)))), (a 35, .inl (cI, 60, .inl (upd (sa 8) s1 (-1)))), (a 14, .inl (cI, 2001, .inl sf)), (a 15, .inl (cI, 2001, .inl pf)), (h0, .inr (13, moF a (upd (upd (upd (upd (upd (upd (upd f 18 (nI x1)) 21 0) 19 1) 20 (pf x1)) 34 (nI (s1 + 1))) 72 0) 71 (nI s1)) w))] H := hP
          have hD : va_D A [(a 36, .inl (cI, 60, .inl (upd (sa 0) s1 0))), (a 37, .inl (cI, 60, .inl (upd (sa 1) s1 0))), (a 38, .inl (cI, 60, .inl (upd (sa 2) s1 (-1)))), (a 39, .inl (cI, 60, .inl (upd (sa 3) s1 0))), (a 40, .inl (cI, 60, .inl (upd (sa 4) s1 (-1)))), (a 41, .inl (cI, 60, .inl (upd (sa 5) s1 (-1)))), (a 42, .inl (cI, 60, .inl (upd (sa 6) s1 0))), (a 43, .inl (cI, 60, .inl (upd (sa 7) s1 (-1)))), (a 35, .inl (cI, 60, .inl (upd (sa 8) s1 (-1)))), (a 14, .inl (cI, 2001, .inl sf)), (a 15, .inl (cI, 2001, .inl pf)), (h0, .inr (13, moF a (upd (upd (upd (upd (upd (upd (upd f 18 (nI x1)) 21 0) 19 1) 20 (pf x1)) 34 (nI (s1 + 1))) 72 0) 71 (nI s1)) w))] := hD
          refine lv_aload_n hx hb dX12_selectOf_508 rfl (lv_at hl 4 rfl) ?_
          refine lv_iconst (v := 0) hx hb dX12_selectOf_509 (by decide) ?_
          refine va_put (D := (dC, dI)) (ci := 13) (v := .int 0) (ty := .boolean) (C := RX12) (T := TX12) (N := 115) hx hb hts (fun w h => List.mem_cons_of_mem _ (uG_X12 w h)) tyX12 tyX12_ok nmX12 hown hK hP hD hS 11 rfl rfl 72 (by decide) (hts _ (List.mem_cons_of_mem _ kw_1763)) (fun _ h9 => h9) rfl (by decide +kernel) rfl rfl (Nat.le_of_ble_eq_true rfl) dX12_selectOf_510 (fun H locs hP hD hS => ?_)
          have hP : va_P (dC, dI) vwCl [(a 36, .inl (cI, 60, .inl (upd (sa 0) s1 0))), (a 37, .inl (cI, 60, .inl (upd (sa 1) s1 0))), (a 38, .inl (cI, 60, .inl (upd (sa 2) s1 (-1)))), (a 39, .inl (cI, 60, .inl (upd (sa 3) s1 0))), (a 40, .inl (cI, 60, .inl (upd (sa 4) s1 (-1)))), (a 41, .inl (cI, 60, .inl (upd (sa 5) s1 (-1)))), (a 42, .inl (cI, 60, .inl (upd (sa 6) s1 0))), (a 43, .inl (cI, 60, .inl (upd (sa 7) s1 (-1)))), (a 35, .inl (cI, 60, .inl (upd (sa 8) s1 (-1)))), (a 14, .inl (cI, 2001, .inl sf)), (a 15, .inl (cI, 2001, .inl pf)), (h0, .inr (13, moF a (upd (upd (upd (upd (upd (upd (upd f 18 (nI x1)) 21 0) 19 1) 20 (pf x1)) 34 (nI (s1 + 1))) 71 (nI s1)) 72 0) w))] H := hP
          have hD : va_D A [(a 36, .inl (cI, 60, .inl (upd (sa 0) s1 0))), (a 37, .inl (cI, 60, .inl (upd (sa 1) s1 0))), (a 38, .inl (cI, 60, .inl (upd (sa 2) s1 (-1)))), (a 39, .inl (cI, 60, .inl (upd (sa 3) s1 0))), (a 40, .inl (cI, 60, .inl (upd (sa 4) s1 (-1)))), (a 41, .inl (cI, 60, .inl (upd (sa 5) s1 (-1)))), (a 42, .inl (cI, 60, .inl (upd (sa 6) s1 0))), (a 43, .inl (cI, 60, .inl (upd (sa 7) s1 (-1)))), (a 35, .inl (cI, 60, .inl (upd (sa 8) s1 (-1)))), (a 14, .inl (cI, 2001, .inl sf)), (a 15, .inl (cI, 2001, .inl pf)), (h0, .inr (13, moF a (upd (upd (upd (upd (upd (upd (upd f 18 (nI x1)) 21 0) 19 1) 20 (pf x1)) 34 (nI (s1 + 1))) 71 (nI s1)) 72 0) w))] := hD
          refine lv_aload_n hx hb dX12_selectOf_513 rfl (lv_at hl 4 rfl) ?_
          refine va_ldcSW (own := RX12) (index := 495) (tx := soT 31) (q := K 31) hx hb hown (hZ.ref 31 (by decide)) dX12_selectOf_514 ?_
          have hPc := hP.sub (ws' := [(h0, .inr (13, moF a (upd (upd (upd (upd (upd (upd (upd f 18 (nI x1)) 21 0) 19 1) 20 (pf x1)) 34 (nI (s1 + 1))) 71 (nI s1)) 72 0) w)), (a 14, .inl (cI, 2001, .inl sf))]) [11, 9] rfl
          have hDc := hD.sub (ws' := [(h0, .inr (13, moF a (upd (upd (upd (upd (upd (upd (upd f 18 (nI x1)) 21 0) 19 1) 20 (pf x1)) 34 (nI (s1 + 1))) 71 (nI s1)) 72 0) w)), (a 14, .inl (cI, 2001, .inl sf))]) [11, 9] (by decide) rfl
          have hKc := hK.sub (tys' := [(cB, .byte), (cI, .int), (cJ, .long), (cZ, .boolean)]) [0, 1, 2, 3] rfl
          have hFc := va_free (wc := [(h0, .inr (13, moF a (upd (upd (upd (upd (upd (upd (upd f 18 (nI x1)) 21 0) 19 1) 20 (pf x1)) 34 (nI (s1 + 1))) 71 (nI s1)) 72 0) w)), (a 14, .inl (cI, 2001, .inl sf))]) hD hS hA [11, 9] rfl
          refine va_calli (va_runV (As := [.ref (K 31)]) (rest := []) ⟨hx, hb, hml, hown, hts⟩ (t_X12_takeWord_n l dC dI H.size cB cI cJ cZ h0 a (upd (upd (upd (upd (upd (upd (upd f 18 (nI x1)) 21 0) 19 1) 20 (pf x1)) 34 (nI (s1 + 1))) 71 (nI s1)) 72 0) w x1 sf pf 31 K V fz hx1 hnw) (cwV 1 hts (gd_all (in_V kw_2238 kw_2240 kw_134 kw_191 kc_X12_takeWord)) rfl rfl rfl (by decide +kernel) ⟨Nat.le_of_ble_eq_true rfl, Nat.le_of_ble_eq_true rfl⟩) ⟨fun a U g mk q => by obtain ⟨q0, q1, qP, qK, qD, qZ⟩ := q; exact ⟨q0, q1, qP, va_K.moved (u := U) (U := U.calling g mk a) (Vm.Alike.refl U.vm) qK, qD, zE.same (u := U) (U := U.calling g mk a) rfl rfl qZ⟩, va_recv hKc hPc (ci := 13) (q0 := 0) rfl rfl, fun U hU hW => ⟨rfl, by rw [hU], by rw [hU]; exact hPc, va_K.moved hW.alike hKc, hDc.weaken (fun _ _ _ _ => trivial), zE.go hZ hS hU hW hFc⟩⟩ rfl rfl hl.1 rfl (lv_room (Nat.le_of_ble_eq_true rfl)) dX12_selectOf_517 ⟨Nat.le_of_ble_eq_true rfl, Nat.le_of_ble_eq_true rfl⟩) hS (fun q _ h => hFc q h) hFc (fun r_11 u t_ H1 locs ht hvm hw hB hz1 hk1 hS => ?_)
          obtain ⟨hP1, hK1, hD1⟩ := hB
          rw [ht] at hP1
          have hK1 := va_K.moved hvm.symm hK1
          obtain ⟨hP, hD⟩ := va_join (wr := [(a 36, .inl (cI, 60, .inl (upd (sa 0) s1 0))), (a 37, .inl (cI, 60, .inl (upd (sa 1) s1 0))), (a 38, .inl (cI, 60, .inl (upd (sa 2) s1 (-1)))), (a 39, .inl (cI, 60, .inl (upd (sa 3) s1 0))), (a 40, .inl (cI, 60, .inl (upd (sa 4) s1 (-1)))), (a 41, .inl (cI, 60, .inl (upd (sa 5) s1 (-1)))), (a 42, .inl (cI, 60, .inl (upd (sa 6) s1 0))), (a 43, .inl (cI, 60, .inl (upd (sa 7) s1 (-1)))), (a 35, .inl (cI, 60, .inl (upd (sa 8) s1 (-1)))), (a 15, .inl (cI, 2001, .inl pf))]) (w1 := [(h0, .inr (13, moF a (upd (upd (upd (upd (upd (upd (upd f 18 (nI x1)) 21 0) 19 1) 20 (pf x1)) 34 (nI (s1 + 1))) 71 (nI s1)) 72 0) w)), (a 14, .inl (cI, 2001, .inl sf))]) hP hD [11, 9] [0, 1, 2, 3, 4, 5, 6, 7, 8, 10] rfl rfl (by decide) (by decide) hk1 hFc hP1 hD1
          have hK := (hK.sub (tys' := []) [] rfl).app hK1
          generalize H1 = H at hP hS ⊢
          have hP : va_P (dC, dI) vwCl [(a 36, .inl (cI, 60, .inl (upd (sa 0) s1 0))), (a 37, .inl (cI, 60, .inl (upd (sa 1) s1 0))), (a 38, .inl (cI, 60, .inl (upd (sa 2) s1 (-1)))), (a 39, .inl (cI, 60, .inl (upd (sa 3) s1 0))), (a 40, .inl (cI, 60, .inl (upd (sa 4) s1 (-1)))), (a 41, .inl (cI, 60, .inl (upd (sa 5) s1 (-1)))), (a 42, .inl (cI, 60, .inl (upd (sa 6) s1 0))), (a 43, .inl (cI, 60, .inl (upd (sa 7) s1 (-1)))), (a 35, .inl (cI, 60, .inl (upd (sa 8) s1 (-1)))), (a 15, .inl (cI, 2001, .inl pf)), (h0, .inr (13, moF a (upd (upd (upd (upd (upd (upd (upd f 18 (nI x1)) 21 0) 19 1) 20 (pf x1)) 34 (nI (s1 + 1))) 71 (nI s1)) 72 0) w)), (a 14, .inl (cI, 2001, .inl sf))] H := hP
          have hD : va_D A [(a 36, .inl (cI, 60, .inl (upd (sa 0) s1 0))), (a 37, .inl (cI, 60, .inl (upd (sa 1) s1 0))), (a 38, .inl (cI, 60, .inl (upd (sa 2) s1 (-1)))), (a 39, .inl (cI, 60, .inl (upd (sa 3) s1 0))), (a 40, .inl (cI, 60, .inl (upd (sa 4) s1 (-1)))), (a 41, .inl (cI, 60, .inl (upd (sa 5) s1 (-1)))), (a 42, .inl (cI, 60, .inl (upd (sa 6) s1 0))), (a 43, .inl (cI, 60, .inl (upd (sa 7) s1 (-1)))), (a 35, .inl (cI, 60, .inl (upd (sa 8) s1 (-1)))), (a 15, .inl (cI, 2001, .inl pf)), (h0, .inr (13, moF a (upd (upd (upd (upd (upd (upd (upd f 18 (nI x1)) 21 0) 19 1) 20 (pf x1)) 34 (nI (s1 + 1))) 71 (nI s1)) 72 0) w)), (a 14, .inl (cI, 2001, .inl sf))] := hD
          have hK : va_K (dC, dI) vwCl [(cB, .byte), (cI, .int), (cJ, .long), (cZ, .boolean)] s := hK
          have er_11 : r_11 = 0 := hw
          rw [er_11]
          refine lv_if_eq (tgt := 544) hx hb dX12_selectOf_520 (by decide) (fun c_12 => ?_) (fun c_12 => ?_)
          · skip
            refine lv_aload_n hx hb dX12_selectOf_544 rfl (lv_at hl 4 rfl) ?_
            refine va_ldcSW (own := RX12) (index := 497) (tx := soT 32) (q := K 32) hx hb hown (hZ.ref 32 (by decide)) dX12_selectOf_545 ?_
            have hPc := hP.sub (ws' := [(h0, .inr (13, moF a (upd (upd (upd (upd (upd (upd (upd f 18 (nI x1)) 21 0) 19 1) 20 (pf x1)) 34 (nI (s1 + 1))) 71 (nI s1)) 72 0) w)), (a 14, .inl (cI, 2001, .inl sf))]) [10, 11] rfl
            have hDc := hD.sub (ws' := [(h0, .inr (13, moF a (upd (upd (upd (upd (upd (upd (upd f 18 (nI x1)) 21 0) 19 1) 20 (pf x1)) 34 (nI (s1 + 1))) 71 (nI s1)) 72 0) w)), (a 14, .inl (cI, 2001, .inl sf))]) [10, 11] (by decide) rfl
            have hKc := hK.sub (tys' := [(cB, .byte), (cI, .int), (cJ, .long), (cZ, .boolean)]) [0, 1, 2, 3] rfl
            have hFc := va_free (wc := [(h0, .inr (13, moF a (upd (upd (upd (upd (upd (upd (upd f 18 (nI x1)) 21 0) 19 1) 20 (pf x1)) 34 (nI (s1 + 1))) 71 (nI s1)) 72 0) w)), (a 14, .inl (cI, 2001, .inl sf))]) hD hS hA [10, 11] rfl
            refine va_calli (va_runV (As := [.ref (K 32)]) (rest := []) ⟨hx, hb, hml, hown, hts⟩ (t_X12_isWord_n l dC dI H.size cB cI cJ cZ h0 a (upd (upd (upd (upd (upd (upd (upd f 18 (nI x1)) 21 0) 19 1) 20 (pf x1)) 34 (nI (s1 + 1))) 71 (nI s1)) 72 0) w x1 sf pf 32 K V fz hx1 hnw) (cwV 1 hts (gd_all (in_V kw_2242 kw_2244 kw_135 kw_191 kc_X12_isWord)) rfl rfl rfl (by decide +kernel) ⟨Nat.le_of_ble_eq_true rfl, Nat.le_of_ble_eq_true rfl⟩) ⟨fun a U g mk q => by obtain ⟨q0, q1, qP, qK, qD, qZ⟩ := q; exact ⟨q0, q1, qP, va_K.moved (u := U) (U := U.calling g mk a) (Vm.Alike.refl U.vm) qK, qD, zE.same (u := U) (U := U.calling g mk a) rfl rfl qZ⟩, va_recv hKc hPc (ci := 13) (q0 := 0) rfl rfl, fun U hU hW => ⟨rfl, by rw [hU], by rw [hU]; exact hPc, va_K.moved hW.alike hKc, hDc.weaken (fun _ _ _ _ => trivial), zE.go hZ hS hU hW hFc⟩⟩ rfl rfl hl.1 rfl (lv_room (Nat.le_of_ble_eq_true rfl)) dX12_selectOf_548 ⟨Nat.le_of_ble_eq_true rfl, Nat.le_of_ble_eq_true rfl⟩) hS (fun q _ h => hFc q h) hFc (fun r_13 u t_ H1 locs ht hvm hw hB hz1 hk1 hS => ?_)
            obtain ⟨hP1, hK1, hD1⟩ := hB
            rw [ht] at hP1
            have hK1 := va_K.moved hvm.symm hK1
            obtain ⟨hP, hD⟩ := va_join (wr := [(a 36, .inl (cI, 60, .inl (upd (sa 0) s1 0))), (a 37, .inl (cI, 60, .inl (upd (sa 1) s1 0))), (a 38, .inl (cI, 60, .inl (upd (sa 2) s1 (-1)))), (a 39, .inl (cI, 60, .inl (upd (sa 3) s1 0))), (a 40, .inl (cI, 60, .inl (upd (sa 4) s1 (-1)))), (a 41, .inl (cI, 60, .inl (upd (sa 5) s1 (-1)))), (a 42, .inl (cI, 60, .inl (upd (sa 6) s1 0))), (a 43, .inl (cI, 60, .inl (upd (sa 7) s1 (-1)))), (a 35, .inl (cI, 60, .inl (upd (sa 8) s1 (-1)))), (a 15, .inl (cI, 2001, .inl pf))]) (w1 := [(h0, .inr (13, moF a (upd (upd (upd (upd (upd (upd (upd f 18 (nI x1)) 21 0) 19 1) 20 (pf x1)) 34 (nI (s1 + 1))) 71 (nI s1)) 72 0) w)), (a 14, .inl (cI, 2001, .inl sf))]) hP hD [10, 11] [0, 1, 2, 3, 4, 5, 6, 7, 8, 9] rfl rfl (by decide) (by decide) hk1 hFc hP1 hD1
            have hK := (hK.sub (tys' := []) [] rfl).app hK1
            generalize H1 = H at hP hS ⊢
            have hP : va_P (dC, dI) vwCl [(a 36, .inl (cI, 60, .inl (upd (sa 0) s1 0))), (a 37, .inl (cI, 60, .inl (upd (sa 1) s1 0))), (a 38, .inl (cI, 60, .inl (upd (sa 2) s1 (-1)))), (a 39, .inl (cI, 60, .inl (upd (sa 3) s1 0))), (a 40, .inl (cI, 60, .inl (upd (sa 4) s1 (-1)))), (a 41, .inl (cI, 60, .inl (upd (sa 5) s1 (-1)))), (a 42, .inl (cI, 60, .inl (upd (sa 6) s1 0))), (a 43, .inl (cI, 60, .inl (upd (sa 7) s1 (-1)))), (a 35, .inl (cI, 60, .inl (upd (sa 8) s1 (-1)))), (a 15, .inl (cI, 2001, .inl pf)), (h0, .inr (13, moF a (upd (upd (upd (upd (upd (upd (upd f 18 (nI x1)) 21 0) 19 1) 20 (pf x1)) 34 (nI (s1 + 1))) 71 (nI s1)) 72 0) w)), (a 14, .inl (cI, 2001, .inl sf))] H := hP
            have hD : va_D A [(a 36, .inl (cI, 60, .inl (upd (sa 0) s1 0))), (a 37, .inl (cI, 60, .inl (upd (sa 1) s1 0))), (a 38, .inl (cI, 60, .inl (upd (sa 2) s1 (-1)))), (a 39, .inl (cI, 60, .inl (upd (sa 3) s1 0))), (a 40, .inl (cI, 60, .inl (upd (sa 4) s1 (-1)))), (a 41, .inl (cI, 60, .inl (upd (sa 5) s1 (-1)))), (a 42, .inl (cI, 60, .inl (upd (sa 6) s1 0))), (a 43, .inl (cI, 60, .inl (upd (sa 7) s1 (-1)))), (a 35, .inl (cI, 60, .inl (upd (sa 8) s1 (-1)))), (a 15, .inl (cI, 2001, .inl pf)), (h0, .inr (13, moF a (upd (upd (upd (upd (upd (upd (upd f 18 (nI x1)) 21 0) 19 1) 20 (pf x1)) 34 (nI (s1 + 1))) 71 (nI s1)) 72 0) w)), (a 14, .inl (cI, 2001, .inl sf))] := hD
            have hK : va_K (dC, dI) vwCl [(cB, .byte), (cI, .int), (cJ, .long), (cZ, .boolean)] s := hK
            have er_13 : r_13 = 0 := hw
            rw [er_13]
            refine lv_if_eq (tgt := 736) hx hb dX12_selectOf_551 (by decide) (fun c_14 => ?_) (fun c_14 => ?_)
            · skip
              refine lv_aload_n hx hb dX12_selectOf_736 rfl (lv_at hl 4 rfl) ?_
              refine va_ldcSW (own := RX12) (index := 498) (tx := soT 34) (q := K 34) hx hb hown (hZ.ref 34 (by decide)) dX12_selectOf_737 ?_
              have hPc := hP.sub (ws' := [(h0, .inr (13, moF a (upd (upd (upd (upd (upd (upd (upd f 18 (nI x1)) 21 0) 19 1) 20 (pf x1)) 34 (nI (s1 + 1))) 71 (nI s1)) 72 0) w)), (a 14, .inl (cI, 2001, .inl sf))]) [10, 11] rfl
              have hDc := hD.sub (ws' := [(h0, .inr (13, moF a (upd (upd (upd (upd (upd (upd (upd f 18 (nI x1)) 21 0) 19 1) 20 (pf x1)) 34 (nI (s1 + 1))) 71 (nI s1)) 72 0) w)), (a 14, .inl (cI, 2001, .inl sf))]) [10, 11] (by decide) rfl
              have hKc := hK.sub (tys' := [(cB, .byte), (cI, .int), (cJ, .long), (cZ, .boolean)]) [0, 1, 2, 3] rfl
              have hFc := va_free (wc := [(h0, .inr (13, moF a (upd (upd (upd (upd (upd (upd (upd f 18 (nI x1)) 21 0) 19 1) 20 (pf x1)) 34 (nI (s1 + 1))) 71 (nI s1)) 72 0) w)), (a 14, .inl (cI, 2001, .inl sf))]) hD hS hA [10, 11] rfl
              refine va_calli (va_runV (As := [.ref (K 34)]) (rest := []) ⟨hx, hb, hml, hown, hts⟩ (t_X12_takeWord_n l dC dI H.size cB cI cJ cZ h0 a (upd (upd (upd (upd (upd (upd (upd f 18 (nI x1)) 21 0) 19 1) 20 (pf x1)) 34 (nI (s1 + 1))) 71 (nI s1)) 72 0) w x1 sf pf 34 K V fz hx1 hnw) (cwV 1 hts (gd_all (in_V kw_2238 kw_2240 kw_134 kw_191 kc_X12_takeWord)) rfl rfl rfl (by decide +kernel) ⟨Nat.le_of_ble_eq_true rfl, Nat.le_of_ble_eq_true rfl⟩) ⟨fun a U g mk q => by obtain ⟨q0, q1, qP, qK, qD, qZ⟩ := q; exact ⟨q0, q1, qP, va_K.moved (u := U) (U := U.calling g mk a) (Vm.Alike.refl U.vm) qK, qD, zE.same (u := U) (U := U.calling g mk a) rfl rfl qZ⟩, va_recv hKc hPc (ci := 13) (q0 := 0) rfl rfl, fun U hU hW => ⟨rfl, by rw [hU], by rw [hU]; exact hPc, va_K.moved hW.alike hKc, hDc.weaken (fun _ _ _ _ => trivial), zE.go hZ hS hU hW hFc⟩⟩ rfl rfl hl.1 rfl (lv_room (Nat.le_of_ble_eq_true rfl)) dX12_selectOf_740 ⟨Nat.le_of_ble_eq_true rfl, Nat.le_of_ble_eq_true rfl⟩) hS (fun q _ h => hFc q h) hFc (fun r_15 u t_ H1 locs ht hvm hw hB hz1 hk1 hS => ?_)
              obtain ⟨hP1, hK1, hD1⟩ := hB
              rw [ht] at hP1
              have hK1 := va_K.moved hvm.symm hK1
              obtain ⟨hP, hD⟩ := va_join (wr := [(a 36, .inl (cI, 60, .inl (upd (sa 0) s1 0))), (a 37, .inl (cI, 60, .inl (upd (sa 1) s1 0))), (a 38, .inl (cI, 60, .inl (upd (sa 2) s1 (-1)))), (a 39, .inl (cI, 60, .inl (upd (sa 3) s1 0))), (a 40, .inl (cI, 60, .inl (upd (sa 4) s1 (-1)))), (a 41, .inl (cI, 60, .inl (upd (sa 5) s1 (-1)))), (a 42, .inl (cI, 60, .inl (upd (sa 6) s1 0))), (a 43, .inl (cI, 60, .inl (upd (sa 7) s1 (-1)))), (a 35, .inl (cI, 60, .inl (upd (sa 8) s1 (-1)))), (a 15, .inl (cI, 2001, .inl pf))]) (w1 := [(h0, .inr (13, moF a (upd (upd (upd (upd (upd (upd (upd f 18 (nI x1)) 21 0) 19 1) 20 (pf x1)) 34 (nI (s1 + 1))) 71 (nI s1)) 72 0) w)), (a 14, .inl (cI, 2001, .inl sf))]) hP hD [10, 11] [0, 1, 2, 3, 4, 5, 6, 7, 8, 9] rfl rfl (by decide) (by decide) hk1 hFc hP1 hD1
              have hK := (hK.sub (tys' := []) [] rfl).app hK1
              generalize H1 = H at hP hS ⊢
              have hP : va_P (dC, dI) vwCl [(a 36, .inl (cI, 60, .inl (upd (sa 0) s1 0))), (a 37, .inl (cI, 60, .inl (upd (sa 1) s1 0))), (a 38, .inl (cI, 60, .inl (upd (sa 2) s1 (-1)))), (a 39, .inl (cI, 60, .inl (upd (sa 3) s1 0))), (a 40, .inl (cI, 60, .inl (upd (sa 4) s1 (-1)))), (a 41, .inl (cI, 60, .inl (upd (sa 5) s1 (-1)))), (a 42, .inl (cI, 60, .inl (upd (sa 6) s1 0))), (a 43, .inl (cI, 60, .inl (upd (sa 7) s1 (-1)))), (a 35, .inl (cI, 60, .inl (upd (sa 8) s1 (-1)))), (a 15, .inl (cI, 2001, .inl pf)), (h0, .inr (13, moF a (upd (upd (upd (upd (upd (upd (upd f 18 (nI x1)) 21 0) 19 1) 20 (pf x1)) 34 (nI (s1 + 1))) 71 (nI s1)) 72 0) w)), (a 14, .inl (cI, 2001, .inl sf))] H := hP
              have hD : va_D A [(a 36, .inl (cI, 60, .inl (upd (sa 0) s1 0))), (a 37, .inl (cI, 60, .inl (upd (sa 1) s1 0))), (a 38, .inl (cI, 60, .inl (upd (sa 2) s1 (-1)))), (a 39, .inl (cI, 60, .inl (upd (sa 3) s1 0))), (a 40, .inl (cI, 60, .inl (upd (sa 4) s1 (-1)))), (a 41, .inl (cI, 60, .inl (upd (sa 5) s1 (-1)))), (a 42, .inl (cI, 60, .inl (upd (sa 6) s1 0))), (a 43, .inl (cI, 60, .inl (upd (sa 7) s1 (-1)))), (a 35, .inl (cI, 60, .inl (upd (sa 8) s1 (-1)))), (a 15, .inl (cI, 2001, .inl pf)), (h0, .inr (13, moF a (upd (upd (upd (upd (upd (upd (upd f 18 (nI x1)) 21 0) 19 1) 20 (pf x1)) 34 (nI (s1 + 1))) 71 (nI s1)) 72 0) w)), (a 14, .inl (cI, 2001, .inl sf))] := hD
              have hK : va_K (dC, dI) vwCl [(cB, .byte), (cI, .int), (cJ, .long), (cZ, .boolean)] s := hK
              have er_15 : r_15 = 0 := hw
              rw [er_15]
              refine lv_if_eq (tgt := 777) hx hb dX12_selectOf_743 (by decide) (fun c_16 => ?_) (fun c_16 => ?_)
              · skip
                refine lv_aload_n hx hb dX12_selectOf_777 rfl (lv_at hl 4 rfl) ?_
                refine lv_iload_n hx hb dX12_selectOf_778 rfl (lv_at hl 2 rfl) ?_
                refine va_put (D := (dC, dI)) (ci := 13) (v := .int (f 71)) (ty := .int) (C := RX12) (T := TX12) (N := 115) hx hb hts (fun w h => List.mem_cons_of_mem _ (uG_X12 w h)) tyX12 tyX12_ok nmX12 hown hK hP hD hS 10 rfl rfl 71 (by decide) (hts _ (List.mem_cons_of_mem _ kw_1762)) (fun _ h9 => h9) rfl (by decide +kernel) rfl rfl (Nat.le_of_ble_eq_true rfl) dX12_selectOf_779 (fun H locs hP hD hS => ?_)
                have hP : va_P (dC, dI) vwCl [(a 36, .inl (cI, 60, .inl (upd (sa 0) s1 0))), (a 37, .inl (cI, 60, .inl (upd (sa 1) s1 0))), (a 38, .inl (cI, 60, .inl (upd (sa 2) s1 (-1)))), (a 39, .inl (cI, 60, .inl (upd (sa 3) s1 0))), (a 40, .inl (cI, 60, .inl (upd (sa 4) s1 (-1)))), (a 41, .inl (cI, 60, .inl (upd (sa 5) s1 (-1)))), (a 42, .inl (cI, 60, .inl (upd (sa 6) s1 0))), (a 43, .inl (cI, 60, .inl (upd (sa 7) s1 (-1)))), (a 35, .inl (cI, 60, .inl (upd (sa 8) s1 (-1)))), (a 15, .inl (cI, 2001, .inl pf)), (h0, .inr (13, moF a (upd (upd (upd (upd (upd (upd (upd f 18 (nI x1)) 21 0) 19 1) 20 (pf x1)) 34 (nI (s1 + 1))) 72 0) 71 (f 71)) w)), (a 14, .inl (cI, 2001, .inl sf))] H := hP
                have hD : va_D A [(a 36, .inl (cI, 60, .inl (upd (sa 0) s1 0))), (a 37, .inl (cI, 60, .inl (upd (sa 1) s1 0))), (a 38, .inl (cI, 60, .inl (upd (sa 2) s1 (-1)))), (a 39, .inl (cI, 60, .inl (upd (sa 3) s1 0))), (a 40, .inl (cI, 60, .inl (upd (sa 4) s1 (-1)))), (a 41, .inl (cI, 60, .inl (upd (sa 5) s1 (-1)))), (a 42, .inl (cI, 60, .inl (upd (sa 6) s1 0))), (a 43, .inl (cI, 60, .inl (upd (sa 7) s1 (-1)))), (a 35, .inl (cI, 60, .inl (upd (sa 8) s1 (-1)))), (a 15, .inl (cI, 2001, .inl pf)), (h0, .inr (13, moF a (upd (upd (upd (upd (upd (upd (upd f 18 (nI x1)) 21 0) 19 1) 20 (pf x1)) 34 (nI (s1 + 1))) 72 0) 71 (f 71)) w)), (a 14, .inl (cI, 2001, .inl sf))] := hD
                refine lv_iload_n hx hb dX12_selectOf_782 rfl (lv_at hl 3 rfl) ?_
                have hP9 := hP.sub (ws' := [(h0, .inr (13, moF a (upd (upd (upd (upd (upd (upd (upd f 18 (nI x1)) 21 0) 19 1) 20 (pf x1)) 34 (nI (s1 + 1))) 72 0) 71 (f 71)) w)), (a 14, .inl (cI, 2001, .inl sf)), (a 15, .inl (cI, 2001, .inl pf)), (a 36, .inl (cI, 60, .inl (upd (sa 0) s1 0))), (a 37, .inl (cI, 60, .inl (upd (sa 1) s1 0))), (a 38, .inl (cI, 60, .inl (upd (sa 2) s1 (-1)))), (a 39, .inl (cI, 60, .inl (upd (sa 3) s1 0))), (a 40, .inl (cI, 60, .inl (upd (sa 4) s1 (-1)))), (a 41, .inl (cI, 60, .inl (upd (sa 5) s1 (-1)))), (a 42, .inl (cI, 60, .inl (upd (sa 6) s1 0))), (a 43, .inl (cI, 60, .inl (upd (sa 7) s1 (-1)))), (a 35, .inl (cI, 60, .inl (upd (sa 8) s1 (-1))))]) [10, 11, 9, 0, 1, 2, 3, 4, 5, 6, 7, 8] rfl
                have hD9 := hD.sub (ws' := [(h0, .inr (13, moF a (upd (upd (upd (upd (upd (upd (upd f 18 (nI x1)) 21 0) 19 1) 20 (pf x1)) 34 (nI (s1 + 1))) 72 0) 71 (f 71)) w)), (a 14, .inl (cI, 2001, .inl sf)), (a 15, .inl (cI, 2001, .inl pf)), (a 36, .inl (cI, 60, .inl (upd (sa 0) s1 0))), (a 37, .inl (cI, 60, .inl (upd (sa 1) s1 0))), (a 38, .inl (cI, 60, .inl (upd (sa 2) s1 (-1)))), (a 39, .inl (cI, 60, .inl (upd (sa 3) s1 0))), (a 40, .inl (cI, 60, .inl (upd (sa 4) s1 (-1)))), (a 41, .inl (cI, 60, .inl (upd (sa 5) s1 (-1)))), (a 42, .inl (cI, 60, .inl (upd (sa 6) s1 0))), (a 43, .inl (cI, 60, .inl (upd (sa 7) s1 (-1)))), (a 35, .inl (cI, 60, .inl (upd (sa 8) s1 (-1))))]) [10, 11, 9, 0, 1, 2, 3, 4, 5, 6, 7, 8] (by decide) rfl
                have hK9 := hK.sub (tys' := [(cB, .byte), (cI, .int), (cJ, .long), (cZ, .boolean)]) [0, 1, 2, 3] rfl
                exact W.iret (v := (nI s1)) hx hb hr (fun t_ ht hW => ⟨⟨(nI s1), (), rfl, rfl, by rw [ht]; exact hP9, va_K.moved hW.alike hK9, hD9⟩, hS.F ht⟩) hS.2.2 dX12_selectOf_783
              · skip
                exact absurd c_16 (by decide)
            · skip
              exact absurd c_14 (by decide)
          · skip
            exact absurd c_12 (by decide)
        · skip
          exact absurd c_10 (by decide)
      · skip
        exact absurd c_7 (by decide)
  · skip
    exact absurd c_4 (by decide)
theorem dX12_queryOf_0 : decode cX12_queryOf 0 = .ok (.aload_n 0, 1) := by decide +kernel
theorem dX12_queryOf_1 : decode cX12_queryOf 1 = .ok (.getfield 453, 3) := by decide +kernel
theorem dX12_queryOf_4 : decode cX12_queryOf 4 = .ok (.istore_n 1, 1) := by decide +kernel
theorem dX12_queryOf_5 : decode cX12_queryOf 5 = .ok (.aload_n 0, 1) := by decide +kernel
theorem dX12_queryOf_6 : decode cX12_queryOf 6 = .ok (.dup, 1) := by decide +kernel
theorem dX12_queryOf_7 : decode cX12_queryOf 7 = .ok (.getfield 453, 3) := by decide +kernel
theorem dX12_queryOf_10 : decode cX12_queryOf 10 = .ok (.iconst 1, 1) := by decide +kernel
theorem dX12_queryOf_11 : decode cX12_queryOf 11 = .ok (.iadd, 1) := by decide +kernel
theorem dX12_queryOf_12 : decode cX12_queryOf 12 = .ok (.putfield 453, 3) := by decide +kernel
theorem dX12_queryOf_15 : decode cX12_queryOf 15 = .ok (.aload_n 0, 1) := by decide +kernel
theorem dX12_queryOf_16 : decode cX12_queryOf 16 = .ok (.getfield 157, 3) := by decide +kernel
theorem dX12_queryOf_19 : decode cX12_queryOf 19 = .ok (.iload_n 1, 1) := by decide +kernel
theorem dX12_queryOf_20 : decode cX12_queryOf 20 = .ok (.iconst 0, 1) := by decide +kernel
theorem dX12_queryOf_21 : decode cX12_queryOf 21 = .ok (.iastore, 1) := by decide +kernel
theorem dX12_queryOf_22 : decode cX12_queryOf 22 = .ok (.aload_n 0, 1) := by decide +kernel
theorem dX12_queryOf_23 : decode cX12_queryOf 23 = .ok (.getfield 169, 3) := by decide +kernel
theorem dX12_queryOf_26 : decode cX12_queryOf 26 = .ok (.iload_n 1, 1) := by decide +kernel
theorem dX12_queryOf_27 : decode cX12_queryOf 27 = .ok (.iconst 0, 1) := by decide +kernel
theorem dX12_queryOf_28 : decode cX12_queryOf 28 = .ok (.iastore, 1) := by decide +kernel
theorem dX12_queryOf_29 : decode cX12_queryOf 29 = .ok (.aload_n 0, 1) := by decide +kernel
theorem dX12_queryOf_30 : decode cX12_queryOf 30 = .ok (.getfield 181, 3) := by decide +kernel
theorem dX12_queryOf_33 : decode cX12_queryOf 33 = .ok (.iload_n 1, 1) := by decide +kernel
theorem dX12_queryOf_34 : decode cX12_queryOf 34 = .ok (.iconst (-1), 1) := by decide +kernel
theorem dX12_queryOf_35 : decode cX12_queryOf 35 = .ok (.iastore, 1) := by decide +kernel
theorem dX12_queryOf_36 : decode cX12_queryOf 36 = .ok (.aload_n 0, 1) := by decide +kernel
theorem dX12_queryOf_37 : decode cX12_queryOf 37 = .ok (.getfield 172, 3) := by decide +kernel
theorem dX12_queryOf_40 : decode cX12_queryOf 40 = .ok (.iload_n 1, 1) := by decide +kernel
theorem dX12_queryOf_41 : decode cX12_queryOf 41 = .ok (.iconst (-1), 1) := by decide +kernel
theorem dX12_queryOf_42 : decode cX12_queryOf 42 = .ok (.iastore, 1) := by decide +kernel
theorem dX12_queryOf_43 : decode cX12_queryOf 43 = .ok (.iconst 1, 1) := by decide +kernel
theorem dX12_queryOf_44 : decode cX12_queryOf 44 = .ok (.istore_n 2, 1) := by decide +kernel
theorem dX12_queryOf_45 : decode cX12_queryOf 45 = .ok (.iconst 0, 1) := by decide +kernel
theorem dX12_queryOf_46 : decode cX12_queryOf 46 = .ok (.istore_n 3, 1) := by decide +kernel
theorem dX12_queryOf_47 : decode cX12_queryOf 47 = .ok (.iconst 0, 1) := by decide +kernel
theorem dX12_queryOf_48 : decode cX12_queryOf 48 = .ok (.istore 4, 2) := by decide +kernel
theorem dX12_queryOf_50 : decode cX12_queryOf 50 = .ok (.iload_n 2, 1) := by decide +kernel
theorem dX12_queryOf_51 : decode cX12_queryOf 51 = .ok (.ifCond .eq 146, 3) := by decide +kernel
theorem dX12_queryOf_54 : decode cX12_queryOf 54 = .ok (.aload_n 0, 1) := by decide +kernel
theorem dX12_queryOf_55 : decode cX12_queryOf 55 = .ok (.getfield 292, 3) := by decide +kernel
theorem dX12_queryOf_58 : decode cX12_queryOf 58 = .ok (.ifCond .eq 139, 3) := by decide +kernel
theorem dX12_queryOf_61 : decode cX12_queryOf 61 = .ok (.aload_n 0, 1) := by decide +kernel
theorem dX12_queryOf_62 : decode cX12_queryOf 62 = .ok (.invokevirtual 456, 3) := by decide +kernel
theorem dX12_queryOf_65 : decode cX12_queryOf 65 = .ok (.istore 5, 2) := by decide +kernel
theorem dX12_queryOf_67 : decode cX12_queryOf 67 = .ok (.iconst 5, 1) := by decide +kernel
theorem dX12_queryOf_68 : decode cX12_queryOf 68 = .ok (.iload_n 1, 1) := by decide +kernel
theorem dX12_queryOf_69 : decode cX12_queryOf 69 = .ok (.imul, 1) := by decide +kernel
theorem dX12_queryOf_70 : decode cX12_queryOf 70 = .ok (.aload_n 0, 1) := by decide +kernel
theorem dX12_queryOf_71 : decode cX12_queryOf 71 = .ok (.getfield 157, 3) := by decide +kernel
theorem dX12_queryOf_74 : decode cX12_queryOf 74 = .ok (.iload_n 1, 1) := by decide +kernel
theorem dX12_queryOf_75 : decode cX12_queryOf 75 = .ok (.iaload, 1) := by decide +kernel
theorem dX12_queryOf_76 : decode cX12_queryOf 76 = .ok (.iadd, 1) := by decide +kernel
theorem dX12_queryOf_77 : decode cX12_queryOf 77 = .ok (.istore 6, 2) := by decide +kernel
theorem dX12_queryOf_79 : decode cX12_queryOf 79 = .ok (.aload_n 0, 1) := by decide +kernel
theorem dX12_queryOf_80 : decode cX12_queryOf 80 = .ok (.getfield 292, 3) := by decide +kernel
theorem dX12_queryOf_83 : decode cX12_queryOf 83 = .ok (.ifCond .eq 39, 3) := by decide +kernel
theorem dX12_queryOf_122 : decode cX12_queryOf 122 = .ok (.aload_n 0, 1) := by decide +kernel
theorem dX12_queryOf_123 : decode cX12_queryOf 123 = .ok (.getfield 43, 3) := by decide +kernel
theorem dX12_queryOf_126 : decode cX12_queryOf 126 = .ok (.aload_n 0, 1) := by decide +kernel
theorem dX12_queryOf_127 : decode cX12_queryOf 127 = .ok (.getfield 302, 3) := by decide +kernel
theorem dX12_queryOf_130 : decode cX12_queryOf 130 = .ok (.iaload, 1) := by decide +kernel
theorem dX12_queryOf_131 : decode cX12_queryOf 131 = .ok (.istore 4, 2) := by decide +kernel
theorem dX12_queryOf_133 : decode cX12_queryOf 133 = .ok (.aload_n 0, 1) := by decide +kernel
theorem dX12_queryOf_134 : decode cX12_queryOf 134 = .ok (.ldc_w 459, 3) := by decide +kernel
theorem dX12_queryOf_137 : decode cX12_queryOf 137 = .ok (.invokevirtual 326, 3) := by decide +kernel
theorem dX12_queryOf_140 : decode cX12_queryOf 140 = .ok (.ifCond .eq 22, 3) := by decide +kernel
theorem dX12_queryOf_162 : decode cX12_queryOf 162 = .ok (.aload_n 0, 1) := by decide +kernel
theorem dX12_queryOf_163 : decode cX12_queryOf 163 = .ok (.ldc_w 463, 3) := by decide +kernel
theorem dX12_queryOf_166 : decode cX12_queryOf 166 = .ok (.invokevirtual 326, 3) := by decide +kernel
theorem dX12_queryOf_169 : decode cX12_queryOf 169 = .ok (.ifCond .eq 8, 3) := by decide +kernel
theorem dX12_queryOf_177 : decode cX12_queryOf 177 = .ok (.aload_n 0, 1) := by decide +kernel
theorem dX12_queryOf_178 : decode cX12_queryOf 178 = .ok (.ldc_w 465, 3) := by decide +kernel
theorem dX12_queryOf_181 : decode cX12_queryOf 181 = .ok (.invokevirtual 326, 3) := by decide +kernel
theorem dX12_queryOf_184 : decode cX12_queryOf 184 = .ok (.ifCond .eq 8, 3) := by decide +kernel
theorem dX12_queryOf_192 : decode cX12_queryOf 192 = .ok (.iconst 0, 1) := by decide +kernel
theorem dX12_queryOf_193 : decode cX12_queryOf 193 = .ok (.istore_n 2, 1) := by decide +kernel
theorem dX12_queryOf_194 : decode cX12_queryOf 194 = .ok (.goto (-144), 3) := by decide +kernel
theorem dX12_queryOf_197 : decode cX12_queryOf 197 = .ok (.aload_n 0, 1) := by decide +kernel
theorem dX12_queryOf_198 : decode cX12_queryOf 198 = .ok (.ldc_w 467, 3) := by decide +kernel
theorem dX12_queryOf_201 : decode cX12_queryOf 201 = .ok (.invokevirtual 322, 3) := by decide +kernel
theorem dX12_queryOf_204 : decode cX12_queryOf 204 = .ok (.ifCond .eq 252, 3) := by decide +kernel
theorem dX12_queryOf_456 : decode cX12_queryOf 456 = .ok (.iload_n 1, 1) := by decide +kernel
theorem dX12_queryOf_457 : decode cX12_queryOf 457 = .ok (.ireturn, 1) := by decide +kernel
abbrev cs_t_X12_queryOf_e (cB cI cJ cZ : ClassId) (h0 : Nat) (a : Nat → Nat) (f : Nat → Int32) (w : Int64) (x1 s1 q1 : Nat) (sf pf : Nat → Int32) (sa : Nat → Nat → Int32) (qa : Nat → Nat → Int32) (K V : Nat → Nat) (fz : Value) : va_W := [(h0, .inr (13, moF a (upd (upd (upd f 18 (nI x1)) 34 (nI s1)) 59 (nI q1)) w)), (a 14, .inl (cI, 2001, .inl sf)), (a 15, .inl (cI, 2001, .inl pf)), (a 36, .inl (cI, 60, .inl (sa 0))), (a 37, .inl (cI, 60, .inl (sa 1))), (a 38, .inl (cI, 60, .inl (sa 2))), (a 39, .inl (cI, 60, .inl (sa 3))), (a 40, .inl (cI, 60, .inl (sa 4))), (a 41, .inl (cI, 60, .inl (sa 5))), (a 42, .inl (cI, 60, .inl (sa 6))), (a 43, .inl (cI, 60, .inl (sa 7))), (a 35, .inl (cI, 60, .inl (sa 8))), (a 60, .inl (cI, 60, .inl (qa 0))), (a 64, .inl (cI, 60, .inl (qa 1))), (a 68, .inl (cI, 60, .inl (qa 2))), (a 65, .inl (cI, 60, .inl (qa 3)))]
abbrev pc_t_X12_queryOf_e (dC : Nat → ClassId) (dI : Nat → Nat → Nat) (sz : Nat) (cB cI cJ cZ : ClassId) (h0 : Nat) (a : Nat → Nat) (f : Nat → Int32) (w : Int64) (x1 s1 q1 : Nat) (sf pf : Nat → Int32) (sa : Nat → Nat → Int32) (qa : Nat → Nat → Int32) (K V : Nat → Nat) (fz : Value) : Array Value → State → Prop := va_Pc [.ref h0] (fun U => U.heap.size = sz ∧ va_P (dC, dI) vwCl [(h0, .inr (13, moF a (upd (upd (upd f 18 (nI x1)) 34 (nI s1)) 59 (nI q1)) w)), (a 14, .inl (cI, 2001, .inl sf)), (a 15, .inl (cI, 2001, .inl pf)), (a 36, .inl (cI, 60, .inl (sa 0))), (a 37, .inl (cI, 60, .inl (sa 1))), (a 38, .inl (cI, 60, .inl (sa 2))), (a 39, .inl (cI, 60, .inl (sa 3))), (a 40, .inl (cI, 60, .inl (sa 4))), (a 41, .inl (cI, 60, .inl (sa 5))), (a 42, .inl (cI, 60, .inl (sa 6))), (a 43, .inl (cI, 60, .inl (sa 7))), (a 35, .inl (cI, 60, .inl (sa 8))), (a 60, .inl (cI, 60, .inl (qa 0))), (a 64, .inl (cI, 60, .inl (qa 1))), (a 68, .inl (cI, 60, .inl (qa 2))), (a 65, .inl (cI, 60, .inl (qa 3)))] U.heap ∧ va_K (dC, dI) vwCl [(cB, .byte), (cI, .int), (cJ, .long), (cZ, .boolean)] U ∧ va_D (fun _ => True) [(h0, .inr (13, moF a (upd (upd (upd f 18 (nI x1)) 34 (nI s1)) 59 (nI q1)) w)), (a 14, .inl (cI, 2001, .inl sf)), (a 15, .inl (cI, 2001, .inl pf)), (a 36, .inl (cI, 60, .inl (sa 0))), (a 37, .inl (cI, 60, .inl (sa 1))), (a 38, .inl (cI, 60, .inl (sa 2))), (a 39, .inl (cI, 60, .inl (sa 3))), (a 40, .inl (cI, 60, .inl (sa 4))), (a 41, .inl (cI, 60, .inl (sa 5))), (a 42, .inl (cI, 60, .inl (sa 6))), (a 43, .inl (cI, 60, .inl (sa 7))), (a 35, .inl (cI, 60, .inl (sa 8))), (a 60, .inl (cI, 60, .inl (qa 0))), (a 64, .inl (cI, 60, .inl (qa 1))), (a 68, .inl (cI, 60, .inl (qa 2))), (a 65, .inl (cI, 60, .inl (qa 3)))] ∧ zE K V fz (va_A (cs_t_X12_queryOf_e cB cI cJ cZ h0 a f w x1 s1 q1 sf pf sa qa K V fz) sz) U)
abbrev qc_t_X12_queryOf_e (dC : Nat → ClassId) (dI : Nat → Nat → Nat) (cB cI cJ cZ : ClassId) (h0 : Nat) (a : Nat → Nat) (f : Nat → Int32) (w : Int64) (x1 s1 q1 : Nat) (sf pf : Nat → Int32) (sa : Nat → Nat → Int32) (qa : Nat → Nat → Int32) (K V : Nat → Nat) (fz : Value) (A : Nat → Prop) : Array Value → State → Outcome → State → Prop := va_Qi (fun (r : Int32) (u : Unit) => match u with | _ => r = nI q1) (fun (u : Unit) t_ => match u with | _ => va_P (dC, dI) vwCl [(h0, .inr (13, moF a (upd (upd (upd (upd (upd (upd (upd (upd f 59 (nI (q1 + 1))) 18 (nI x1)) 21 0) 19 1) 20 (pf x1)) 34 (nI (s1 + 1))) 72 0) 71 (f 71)) w)), (a 14, .inl (cI, 2001, .inl sf)), (a 15, .inl (cI, 2001, .inl pf)), (a 36, .inl (cI, 60, .inl (upd (sa 0) s1 0))), (a 37, .inl (cI, 60, .inl (upd (sa 1) s1 0))), (a 38, .inl (cI, 60, .inl (upd (sa 2) s1 (-1)))), (a 39, .inl (cI, 60, .inl (upd (sa 3) s1 0))), (a 40, .inl (cI, 60, .inl (upd (sa 4) s1 (-1)))), (a 41, .inl (cI, 60, .inl (upd (sa 5) s1 (-1)))), (a 42, .inl (cI, 60, .inl (upd (sa 6) s1 0))), (a 43, .inl (cI, 60, .inl (upd (sa 7) s1 (-1)))), (a 35, .inl (cI, 60, .inl (upd (sa 8) s1 (-1)))), (a 60, .inl (cI, 60, .inl (upd (qa 0) q1 0))), (a 64, .inl (cI, 60, .inl (upd (qa 1) q1 0))), (a 68, .inl (cI, 60, .inl (upd (qa 2) q1 (-1)))), (a 65, .inl (cI, 60, .inl (upd (qa 3) q1 (-1))))] t_.heap ∧ va_K (dC, dI) vwCl [(cB, .byte), (cI, .int), (cJ, .long), (cZ, .boolean)] t_ ∧ va_D A [(h0, .inr (13, moF a (upd (upd (upd (upd (upd (upd (upd (upd f 59 (nI (q1 + 1))) 18 (nI x1)) 21 0) 19 1) 20 (pf x1)) 34 (nI (s1 + 1))) 72 0) 71 (f 71)) w)), (a 14, .inl (cI, 2001, .inl sf)), (a 15, .inl (cI, 2001, .inl pf)), (a 36, .inl (cI, 60, .inl (upd (sa 0) s1 0))), (a 37, .inl (cI, 60, .inl (upd (sa 1) s1 0))), (a 38, .inl (cI, 60, .inl (upd (sa 2) s1 (-1)))), (a 39, .inl (cI, 60, .inl (upd (sa 3) s1 0))), (a 40, .inl (cI, 60, .inl (upd (sa 4) s1 (-1)))), (a 41, .inl (cI, 60, .inl (upd (sa 5) s1 (-1)))), (a 42, .inl (cI, 60, .inl (upd (sa 6) s1 0))), (a 43, .inl (cI, 60, .inl (upd (sa 7) s1 (-1)))), (a 35, .inl (cI, 60, .inl (upd (sa 8) s1 (-1)))), (a 60, .inl (cI, 60, .inl (upd (qa 0) q1 0))), (a 64, .inl (cI, 60, .inl (upd (qa 1) q1 0))), (a 68, .inl (cI, 60, .inl (upd (qa 2) q1 (-1)))), (a 65, .inl (cI, 60, .inl (upd (qa 3) q1 (-1))))]) A
set_option maxHeartbeats 4000000 in
set_option maxRecDepth 100000 in
theorem t_X12_queryOf_e (l : Launch) (dC : Nat → ClassId) (dI : Nat → Nat → Nat) (sz : Nat) (cB cI cJ cZ : ClassId) (h0 : Nat) (a : Nat → Nat) (f : Nat → Int32) (w : Int64) (x1 s1 q1 : Nat) (sf pf : Nat → Int32) (sa : Nat → Nat → Int32) (qa : Nat → Nat → Int32) (K V : Nat → Nat) (fz : Value) (hx1 : x1 ≤ 2000) (hg : ¬ f 21 = 0) (hnw : f 21 = 0 ∨ ¬ sf x1 = 1) (hs1 : s1 < 60) (hq1 : q1 < 60) : Met l yX12_queryOf (wsOf yX12_queryOf cX12_queryOf 8 (some .int)) ({ frames := 4, cells := 0, slots := 0, locals := 240 }) (pc_t_X12_queryOf_e dC dI sz cB cI cJ cZ h0 a f w x1 s1 q1 sf pf sa qa K V fz) (qc_t_X12_queryOf_e dC dI cB cI cJ cZ h0 a f w x1 s1 q1 sf pf sa qa K V fz (va_A (cs_t_X12_queryOf_e cB cI cJ cZ h0 a f w x1 s1 q1 sf pf sa qa K V fz) sz)) 0 0 (va_A (cs_t_X12_queryOf_e cB cI cJ cZ h0 a f w x1 s1 q1 sf pf sa qa K V fz) sz) := by
  refine Met.ofW (cc := cX12_queryOf) (maxL := 8) (ret := (some .int)) (by decide) rfl ?_
  intro p e s m args below meth c s₁ B hml hv
  obtain ⟨rfl, hsz, hP, hK, hD0, hZ⟩ := hv
  have hx := B.exec
  have hb := B.bytes
  have hr := B.returns
  have hts := atoms_spec (ws := (wsOf yX12_queryOf cX12_queryOf 8 (some .int))) B.pre
  have hown : s.vm.findClass RX12 = some m.cls := findClass_of_methodNamed B.named
  have hlocks := B.notSynchronized
  subst hsz
  have hD := hD0.self (sz := s.heap.size)
  generalize hAe : va_A (cs_t_X12_queryOf_e cB cI cJ cZ h0 a f w x1 s1 q1 sf pf sa qa K V fz) s.heap.size = A at hD hZ ⊢
  have hA : ∀ q : Nat, s.heap.size ≤ q → A q := fun q h => by rw [← hAe]; exact Or.inr h
  have hS : va_S A s.heap s.heap [] := va_S.rf
  have hP : va_P (dC, dI) vwCl [(h0, .inr (13, moF a (upd (upd (upd f 18 (nI x1)) 34 (nI s1)) 59 (nI q1)) w)), (a 14, .inl (cI, 2001, .inl sf)), (a 15, .inl (cI, 2001, .inl pf)), (a 36, .inl (cI, 60, .inl (sa 0))), (a 37, .inl (cI, 60, .inl (sa 1))), (a 38, .inl (cI, 60, .inl (sa 2))), (a 39, .inl (cI, 60, .inl (sa 3))), (a 40, .inl (cI, 60, .inl (sa 4))), (a 41, .inl (cI, 60, .inl (sa 5))), (a 42, .inl (cI, 60, .inl (sa 6))), (a 43, .inl (cI, 60, .inl (sa 7))), (a 35, .inl (cI, 60, .inl (sa 8))), (a 60, .inl (cI, 60, .inl (qa 0))), (a 64, .inl (cI, 60, .inl (qa 1))), (a 68, .inl (cI, 60, .inl (qa 2))), (a 65, .inl (cI, 60, .inl (qa 3)))] s.heap := hP
  have hl := lv_entry ([.ref h0]) (n := 8) (Nat.le_of_ble_eq_true rfl)
  rw [lg_entry_eq]
  generalize (lg_sl ([.ref h0]) ++ List.replicate (8 - (lg_sl ([.ref h0])).length) Slot.unset).toArray = ls at hl ⊢
  have hl : lv_has ls 8 [(0, .ref h0)] := hl
  refine lv_aload_n hx hb dX12_queryOf_0 rfl (lv_at hl 0 rfl) ?_
  refine va_get (D := (dC, dI)) (ci := 13) (v := .int (nI q1)) (C := RX12) (T := TX12) (N := 115) hx hb hts (fun w h => List.mem_cons_of_mem _ (uG_X12 w h)) hown hK hP 0 rfl rfl 59 (by decide) (hts _ (List.mem_cons_of_mem _ kw_1750)) (fun _ h9 => h9) rfl dX12_queryOf_1 ?_
  refine lv_istore_n (lv' := [(1, .int (nI q1)), (0, .ref h0)]) hx hb dX12_queryOf_4 rfl hl (by decide) rfl (fun ls hl => ?_)
  refine lv_aload_n hx hb dX12_queryOf_5 rfl (lv_at hl 1 rfl) ?_
  refine lv_dup hx hb dX12_queryOf_6 rfl ?_
  refine va_get (D := (dC, dI)) (ci := 13) (v := .int (nI q1)) (C := RX12) (T := TX12) (N := 115) hx hb hts (fun w h => List.mem_cons_of_mem _ (uG_X12 w h)) hown hK hP 0 rfl rfl 59 (by decide) (hts _ (List.mem_cons_of_mem _ kw_1750)) (fun _ h9 => h9) rfl dX12_queryOf_7 ?_
  refine lv_iconst (v := 1) hx hb dX12_queryOf_10 (by decide) ?_
  refine lv_iadd hx hb dX12_queryOf_11 ?_
  refine lv_topi (fun x_1 ex_1 => ?_)
  have ex_1 : x_1 = nI (q1 + 1) := ex_1.trans (nI_add q1 1)
  subst ex_1
  refine va_put (D := (dC, dI)) (ci := 13) (v := .int (nI (q1 + 1))) (ty := .int) (C := RX12) (T := TX12) (N := 115) hx hb hts (fun w h => List.mem_cons_of_mem _ (uG_X12 w h)) tyX12 tyX12_ok nmX12 hown hK hP hD hS 0 rfl rfl 59 (by decide) (hts _ (List.mem_cons_of_mem _ kw_1750)) (fun _ h9 => h9) rfl (by decide +kernel) rfl rfl (Nat.le_of_ble_eq_true rfl) dX12_queryOf_12 (fun H locs hP hD hS => ?_)
  have hP : va_P (dC, dI) vwCl [(h0, .inr (13, moF a (upd (upd (upd f 18 (nI x1)) 34 (nI s1)) 59 (nI (q1 + 1))) w)), (a 14, .inl (cI, 2001, .inl sf)), (a 15, .inl (cI, 2001, .inl pf)), (a 36, .inl (cI, 60, .inl (sa 0))), (a 37, .inl (cI, 60, .inl (sa 1))), (a 38, .inl (cI, 60, .inl (sa 2))), (a 39, .inl (cI, 60, .inl (sa 3))), (a 40, .inl (cI, 60, .inl (sa 4))), (a 41, .inl (cI, 60, .inl (sa 5))), (a 42, .inl (cI, 60, .inl (sa 6))), (a 43, .inl (cI, 60, .inl (sa 7))), (a 35, .inl (cI, 60, .inl (sa 8))), (a 60, .inl (cI, 60, .inl (qa 0))), (a 64, .inl (cI, 60, .inl (qa 1))), (a 68, .inl (cI, 60, .inl (qa 2))), (a 65, .inl (cI, 60, .inl (qa 3)))] H := hP
  have hD : va_D A [(h0, .inr (13, moF a (upd (upd (upd f 18 (nI x1)) 34 (nI s1)) 59 (nI (q1 + 1))) w)), (a 14, .inl (cI, 2001, .inl sf)), (a 15, .inl (cI, 2001, .inl pf)), (a 36, .inl (cI, 60, .inl (sa 0))), (a 37, .inl (cI, 60, .inl (sa 1))), (a 38, .inl (cI, 60, .inl (sa 2))), (a 39, .inl (cI, 60, .inl (sa 3))), (a 40, .inl (cI, 60, .inl (sa 4))), (a 41, .inl (cI, 60, .inl (sa 5))), (a 42, .inl (cI, 60, .inl (sa 6))), (a 43, .inl (cI, 60, .inl (sa 7))), (a 35, .inl (cI, 60, .inl (sa 8))), (a 60, .inl (cI, 60, .inl (qa 0))), (a 64, .inl (cI, 60, .inl (qa 1))), (a 68, .inl (cI, 60, .inl (qa 2))), (a 65, .inl (cI, 60, .inl (qa 3)))] := hD
  refine lv_aload_n hx hb dX12_queryOf_15 rfl (lv_at hl 1 rfl) ?_
  refine va_get (D := (dC, dI)) (ci := 13) (v := .ref (a 60)) (C := RX12) (T := TX12) (N := 115) hx hb hts (fun w h => List.mem_cons_of_mem _ (uG_X12 w h)) hown hK hP 0 rfl rfl 60 (by decide) (hts _ (List.mem_cons_of_mem _ kw_1751)) (fun _ h9 => h9) rfl dX12_queryOf_16 ?_
  refine lv_iload_n hx hb dX12_queryOf_19 rfl (lv_at hl 0 rfl) ?_
  refine lv_iconst (v := 0) hx hb dX12_queryOf_20 (by decide) ?_
  refine va_iast hx hb hK hP hD hS 12 1 rfl rfl (i := (nI q1)) (x := 0) (vp_in_nI (n := q1) (N := 60) (by omega) (by omega)) dX12_queryOf_21 (fun H locs hP hD hS => ?_)
  rw [show (nI q1).toNatClampNeg = q1 from nI_clamp (n := q1) (by omega)] at hP hD
  have hP : va_P (dC, dI) vwCl [(h0, .inr (13, moF a (upd (upd (upd f 18 (nI x1)) 34 (nI s1)) 59 (nI (q1 + 1))) w)), (a 14, .inl (cI, 2001, .inl sf)), (a 15, .inl (cI, 2001, .inl pf)), (a 36, .inl (cI, 60, .inl (sa 0))), (a 37, .inl (cI, 60, .inl (sa 1))), (a 38, .inl (cI, 60, .inl (sa 2))), (a 39, .inl (cI, 60, .inl (sa 3))), (a 40, .inl (cI, 60, .inl (sa 4))), (a 41, .inl (cI, 60, .inl (sa 5))), (a 42, .inl (cI, 60, .inl (sa 6))), (a 43, .inl (cI, 60, .inl (sa 7))), (a 35, .inl (cI, 60, .inl (sa 8))), (a 60, .inl (cI, 60, .inl (upd (qa 0) q1 0))), (a 64, .inl (cI, 60, .inl (qa 1))), (a 68, .inl (cI, 60, .inl (qa 2))), (a 65, .inl (cI, 60, .inl (qa 3)))] H := hP
  have hD : va_D A [(h0, .inr (13, moF a (upd (upd (upd f 18 (nI x1)) 34 (nI s1)) 59 (nI (q1 + 1))) w)), (a 14, .inl (cI, 2001, .inl sf)), (a 15, .inl (cI, 2001, .inl pf)), (a 36, .inl (cI, 60, .inl (sa 0))), (a 37, .inl (cI, 60, .inl (sa 1))), (a 38, .inl (cI, 60, .inl (sa 2))), (a 39, .inl (cI, 60, .inl (sa 3))), (a 40, .inl (cI, 60, .inl (sa 4))), (a 41, .inl (cI, 60, .inl (sa 5))), (a 42, .inl (cI, 60, .inl (sa 6))), (a 43, .inl (cI, 60, .inl (sa 7))), (a 35, .inl (cI, 60, .inl (sa 8))), (a 60, .inl (cI, 60, .inl (upd (qa 0) q1 0))), (a 64, .inl (cI, 60, .inl (qa 1))), (a 68, .inl (cI, 60, .inl (qa 2))), (a 65, .inl (cI, 60, .inl (qa 3)))] := hD
  refine lv_aload_n hx hb dX12_queryOf_22 rfl (lv_at hl 1 rfl) ?_
  refine va_get (D := (dC, dI)) (ci := 13) (v := .ref (a 64)) (C := RX12) (T := TX12) (N := 115) hx hb hts (fun w h => List.mem_cons_of_mem _ (uG_X12 w h)) hown hK hP 0 rfl rfl 64 (by decide) (hts _ (List.mem_cons_of_mem _ kw_1755)) (fun _ h9 => h9) rfl dX12_queryOf_23 ?_
  refine lv_iload_n hx hb dX12_queryOf_26 rfl (lv_at hl 0 rfl) ?_
  refine lv_iconst (v := 0) hx hb dX12_queryOf_27 (by decide) ?_
  refine va_iast hx hb hK hP hD hS 13 1 rfl rfl (i := (nI q1)) (x := 0) (vp_in_nI (n := q1) (N := 60) (by omega) (by omega)) dX12_queryOf_28 (fun H locs hP hD hS => ?_)
  rw [show (nI q1).toNatClampNeg = q1 from nI_clamp (n := q1) (by omega)] at hP hD
  have hP : va_P (dC, dI) vwCl [(h0, .inr (13, moF a (upd (upd (upd f 18 (nI x1)) 34 (nI s1)) 59 (nI (q1 + 1))) w)), (a 14, .inl (cI, 2001, .inl sf)), (a 15, .inl (cI, 2001, .inl pf)), (a 36, .inl (cI, 60, .inl (sa 0))), (a 37, .inl (cI, 60, .inl (sa 1))), (a 38, .inl (cI, 60, .inl (sa 2))), (a 39, .inl (cI, 60, .inl (sa 3))), (a 40, .inl (cI, 60, .inl (sa 4))), (a 41, .inl (cI, 60, .inl (sa 5))), (a 42, .inl (cI, 60, .inl (sa 6))), (a 43, .inl (cI, 60, .inl (sa 7))), (a 35, .inl (cI, 60, .inl (sa 8))), (a 60, .inl (cI, 60, .inl (upd (qa 0) q1 0))), (a 64, .inl (cI, 60, .inl (upd (qa 1) q1 0))), (a 68, .inl (cI, 60, .inl (qa 2))), (a 65, .inl (cI, 60, .inl (qa 3)))] H := hP
  have hD : va_D A [(h0, .inr (13, moF a (upd (upd (upd f 18 (nI x1)) 34 (nI s1)) 59 (nI (q1 + 1))) w)), (a 14, .inl (cI, 2001, .inl sf)), (a 15, .inl (cI, 2001, .inl pf)), (a 36, .inl (cI, 60, .inl (sa 0))), (a 37, .inl (cI, 60, .inl (sa 1))), (a 38, .inl (cI, 60, .inl (sa 2))), (a 39, .inl (cI, 60, .inl (sa 3))), (a 40, .inl (cI, 60, .inl (sa 4))), (a 41, .inl (cI, 60, .inl (sa 5))), (a 42, .inl (cI, 60, .inl (sa 6))), (a 43, .inl (cI, 60, .inl (sa 7))), (a 35, .inl (cI, 60, .inl (sa 8))), (a 60, .inl (cI, 60, .inl (upd (qa 0) q1 0))), (a 64, .inl (cI, 60, .inl (upd (qa 1) q1 0))), (a 68, .inl (cI, 60, .inl (qa 2))), (a 65, .inl (cI, 60, .inl (qa 3)))] := hD
  refine lv_aload_n hx hb dX12_queryOf_29 rfl (lv_at hl 1 rfl) ?_
  refine va_get (D := (dC, dI)) (ci := 13) (v := .ref (a 68)) (C := RX12) (T := TX12) (N := 115) hx hb hts (fun w h => List.mem_cons_of_mem _ (uG_X12 w h)) hown hK hP 0 rfl rfl 68 (by decide) (hts _ (List.mem_cons_of_mem _ kw_1759)) (fun _ h9 => h9) rfl dX12_queryOf_30 ?_
  refine lv_iload_n hx hb dX12_queryOf_33 rfl (lv_at hl 0 rfl) ?_
  refine lv_iconst (v := (-1)) hx hb dX12_queryOf_34 (by decide) ?_
  refine va_iast hx hb hK hP hD hS 14 1 rfl rfl (i := (nI q1)) (x := (-1)) (vp_in_nI (n := q1) (N := 60) (by omega) (by omega)) dX12_queryOf_35 (fun H locs hP hD hS => ?_)
  rw [show (nI q1).toNatClampNeg = q1 from nI_clamp (n := q1) (by omega)] at hP hD
  have hP : va_P (dC, dI) vwCl [(h0, .inr (13, moF a (upd (upd (upd f 18 (nI x1)) 34 (nI s1)) 59 (nI (q1 + 1))) w)), (a 14, .inl (cI, 2001, .inl sf)), (a 15, .inl (cI, 2001, .inl pf)), (a 36, .inl (cI, 60, .inl (sa 0))), (a 37, .inl (cI, 60, .inl (sa 1))), (a 38, .inl (cI, 60, .inl (sa 2))), (a 39, .inl (cI, 60, .inl (sa 3))), (a 40, .inl (cI, 60, .inl (sa 4))), (a 41, .inl (cI, 60, .inl (sa 5))), (a 42, .inl (cI, 60, .inl (sa 6))), (a 43, .inl (cI, 60, .inl (sa 7))), (a 35, .inl (cI, 60, .inl (sa 8))), (a 60, .inl (cI, 60, .inl (upd (qa 0) q1 0))), (a 64, .inl (cI, 60, .inl (upd (qa 1) q1 0))), (a 68, .inl (cI, 60, .inl (upd (qa 2) q1 (-1)))), (a 65, .inl (cI, 60, .inl (qa 3)))] H := hP
  have hD : va_D A [(h0, .inr (13, moF a (upd (upd (upd f 18 (nI x1)) 34 (nI s1)) 59 (nI (q1 + 1))) w)), (a 14, .inl (cI, 2001, .inl sf)), (a 15, .inl (cI, 2001, .inl pf)), (a 36, .inl (cI, 60, .inl (sa 0))), (a 37, .inl (cI, 60, .inl (sa 1))), (a 38, .inl (cI, 60, .inl (sa 2))), (a 39, .inl (cI, 60, .inl (sa 3))), (a 40, .inl (cI, 60, .inl (sa 4))), (a 41, .inl (cI, 60, .inl (sa 5))), (a 42, .inl (cI, 60, .inl (sa 6))), (a 43, .inl (cI, 60, .inl (sa 7))), (a 35, .inl (cI, 60, .inl (sa 8))), (a 60, .inl (cI, 60, .inl (upd (qa 0) q1 0))), (a 64, .inl (cI, 60, .inl (upd (qa 1) q1 0))), (a 68, .inl (cI, 60, .inl (upd (qa 2) q1 (-1)))), (a 65, .inl (cI, 60, .inl (qa 3)))] := hD
  refine lv_aload_n hx hb dX12_queryOf_36 rfl (lv_at hl 1 rfl) ?_
  refine va_get (D := (dC, dI)) (ci := 13) (v := .ref (a 65)) (C := RX12) (T := TX12) (N := 115) hx hb hts (fun w h => List.mem_cons_of_mem _ (uG_X12 w h)) hown hK hP 0 rfl rfl 65 (by decide) (hts _ (List.mem_cons_of_mem _ kw_1756)) (fun _ h9 => h9) rfl dX12_queryOf_37 ?_
  refine lv_iload_n hx hb dX12_queryOf_40 rfl (lv_at hl 0 rfl) ?_
  refine lv_iconst (v := (-1)) hx hb dX12_queryOf_41 (by decide) ?_
  refine va_iast hx hb hK hP hD hS 15 1 rfl rfl (i := (nI q1)) (x := (-1)) (vp_in_nI (n := q1) (N := 60) (by omega) (by omega)) dX12_queryOf_42 (fun H locs hP hD hS => ?_)
  rw [show (nI q1).toNatClampNeg = q1 from nI_clamp (n := q1) (by omega)] at hP hD
  have hP : va_P (dC, dI) vwCl [(h0, .inr (13, moF a (upd (upd (upd f 18 (nI x1)) 34 (nI s1)) 59 (nI (q1 + 1))) w)), (a 14, .inl (cI, 2001, .inl sf)), (a 15, .inl (cI, 2001, .inl pf)), (a 36, .inl (cI, 60, .inl (sa 0))), (a 37, .inl (cI, 60, .inl (sa 1))), (a 38, .inl (cI, 60, .inl (sa 2))), (a 39, .inl (cI, 60, .inl (sa 3))), (a 40, .inl (cI, 60, .inl (sa 4))), (a 41, .inl (cI, 60, .inl (sa 5))), (a 42, .inl (cI, 60, .inl (sa 6))), (a 43, .inl (cI, 60, .inl (sa 7))), (a 35, .inl (cI, 60, .inl (sa 8))), (a 60, .inl (cI, 60, .inl (upd (qa 0) q1 0))), (a 64, .inl (cI, 60, .inl (upd (qa 1) q1 0))), (a 68, .inl (cI, 60, .inl (upd (qa 2) q1 (-1)))), (a 65, .inl (cI, 60, .inl (upd (qa 3) q1 (-1))))] H := hP
  have hD : va_D A [(h0, .inr (13, moF a (upd (upd (upd f 18 (nI x1)) 34 (nI s1)) 59 (nI (q1 + 1))) w)), (a 14, .inl (cI, 2001, .inl sf)), (a 15, .inl (cI, 2001, .inl pf)), (a 36, .inl (cI, 60, .inl (sa 0))), (a 37, .inl (cI, 60, .inl (sa 1))), (a 38, .inl (cI, 60, .inl (sa 2))), (a 39, .inl (cI, 60, .inl (sa 3))), (a 40, .inl (cI, 60, .inl (sa 4))), (a 41, .inl (cI, 60, .inl (sa 5))), (a 42, .inl (cI, 60, .inl (sa 6))), (a 43, .inl (cI, 60, .inl (sa 7))), (a 35, .inl (cI, 60, .inl (sa 8))), (a 60, .inl (cI, 60, .inl (upd (qa 0) q1 0))), (a 64, .inl (cI, 60, .inl (upd (qa 1) q1 0))), (a 68, .inl (cI, 60, .inl (upd (qa 2) q1 (-1)))), (a 65, .inl (cI, 60, .inl (upd (qa 3) q1 (-1))))] := hD
  refine lv_iconst (v := 1) hx hb dX12_queryOf_43 (by decide) ?_
  refine lv_istore_n (lv' := [(2, .int 1), (1, .int (nI q1)), (0, .ref h0)]) hx hb dX12_queryOf_44 rfl hl (by decide) rfl (fun ls hl => ?_)
  refine lv_iconst (v := 0) hx hb dX12_queryOf_45 (by decide) ?_
  refine lv_istore_n (lv' := [(3, .int 0), (2, .int 1), (1, .int (nI q1)), (0, .ref h0)]) hx hb dX12_queryOf_46 rfl hl (by decide) rfl (fun ls hl => ?_)
  refine lv_iconst (v := 0) hx hb dX12_queryOf_47 (by decide) ?_
  refine lv_istore (lv' := [(4, .int 0), (3, .int 0), (2, .int 1), (1, .int (nI q1)), (0, .ref h0)]) hx hb dX12_queryOf_48 hl (by decide) rfl (fun ls hl => ?_)
  refine lv_iload_n hx hb dX12_queryOf_50 rfl (lv_at hl 2 rfl) ?_
  refine lv_if_eq (tgt := 197) hx hb dX12_queryOf_51 (by decide) (fun c_2 => ?_) (fun c_2 => ?_)
  · skip
    exact absurd c_2 (by decide)
  · skip
    refine lv_aload_n hx hb dX12_queryOf_54 rfl (lv_at hl 4 rfl) ?_
    refine va_get (D := (dC, dI)) (ci := 13) (v := .int (f 21)) (C := RX12) (T := TX12) (N := 115) hx hb hts (fun w h => List.mem_cons_of_mem _ (uG_X12 w h)) hown hK hP 0 rfl rfl 21 (by decide) (hts _ (List.mem_cons_of_mem _ kw_1712)) (fun _ h9 => h9) rfl dX12_queryOf_55 ?_
    refine lv_if_eq (tgt := 197) hx hb dX12_queryOf_58 (by decide) (fun c_3 => ?_) (fun c_3 => ?_)
    · skip
      exact absurd c_3 hg
    · skip
      refine lv_aload_n hx hb dX12_queryOf_61 rfl (lv_at hl 4 rfl) ?_
      have hPc := hP.sub (ws' := [(h0, .inr (13, moF a (upd (upd (upd f 18 (nI x1)) 34 (nI s1)) 59 (nI (q1 + 1))) w)), (a 14, .inl (cI, 2001, .inl sf)), (a 15, .inl (cI, 2001, .inl pf)), (a 36, .inl (cI, 60, .inl (sa 0))), (a 37, .inl (cI, 60, .inl (sa 1))), (a 38, .inl (cI, 60, .inl (sa 2))), (a 39, .inl (cI, 60, .inl (sa 3))), (a 40, .inl (cI, 60, .inl (sa 4))), (a 41, .inl (cI, 60, .inl (sa 5))), (a 42, .inl (cI, 60, .inl (sa 6))), (a 43, .inl (cI, 60, .inl (sa 7))), (a 35, .inl (cI, 60, .inl (sa 8)))]) [0, 1, 2, 3, 4, 5, 6, 7, 8, 9, 10, 11] rfl
      have hDc := hD.sub (ws' := [(h0, .inr (13, moF a (upd (upd (upd f 18 (nI x1)) 34 (nI s1)) 59 (nI (q1 + 1))) w)), (a 14, .inl (cI, 2001, .inl sf)), (a 15, .inl (cI, 2001, .inl pf)), (a 36, .inl (cI, 60, .inl (sa 0))), (a 37, .inl (cI, 60, .inl (sa 1))), (a 38, .inl (cI, 60, .inl (sa 2))), (a 39, .inl (cI, 60, .inl (sa 3))), (a 40, .inl (cI, 60, .inl (sa 4))), (a 41, .inl (cI, 60, .inl (sa 5))), (a 42, .inl (cI, 60, .inl (sa 6))), (a 43, .inl (cI, 60, .inl (sa 7))), (a 35, .inl (cI, 60, .inl (sa 8)))]) [0, 1, 2, 3, 4, 5, 6, 7, 8, 9, 10, 11] (by decide) rfl
      have hKc := hK.sub (tys' := [(cB, .byte), (cI, .int), (cJ, .long), (cZ, .boolean)]) [0, 1, 2, 3] rfl
      have hFc := va_free (wc := [(h0, .inr (13, moF a (upd (upd (upd f 18 (nI x1)) 34 (nI s1)) 59 (nI (q1 + 1))) w)), (a 14, .inl (cI, 2001, .inl sf)), (a 15, .inl (cI, 2001, .inl pf)), (a 36, .inl (cI, 60, .inl (sa 0))), (a 37, .inl (cI, 60, .inl (sa 1))), (a 38, .inl (cI, 60, .inl (sa 2))), (a 39, .inl (cI, 60, .inl (sa 3))), (a 40, .inl (cI, 60, .inl (sa 4))), (a 41, .inl (cI, 60, .inl (sa 5))), (a 42, .inl (cI, 60, .inl (sa 6))), (a 43, .inl (cI, 60, .inl (sa 7))), (a 35, .inl (cI, 60, .inl (sa 8)))]) hD hS hA [0, 1, 2, 3, 4, 5, 6, 7, 8, 9, 10, 11] rfl
      refine va_calli (va_runV (As := []) (rest := []) ⟨hx, hb, hml, hown, hts⟩ (t_X12_selectOf_e l dC dI H.size cB cI cJ cZ h0 a (upd (upd (upd f 18 (nI x1)) 34 (nI s1)) 59 (nI (q1 + 1))) w x1 s1 sf pf sa K V fz hx1 hg hnw hs1) (cwV 0 hts (gd_all (in_V kw_2256 kw_2258 kw_138 kw_191 kc_X12_selectOf)) rfl rfl rfl (by decide +kernel) ⟨Nat.le_of_ble_eq_true rfl, Nat.le_of_ble_eq_true rfl⟩) ⟨fun a U g mk q => by obtain ⟨q0, q1, qP, qK, qD, qZ⟩ := q; exact ⟨q0, q1, qP, va_K.moved (u := U) (U := U.calling g mk a) (Vm.Alike.refl U.vm) qK, qD, zE.same (u := U) (U := U.calling g mk a) rfl rfl qZ⟩, va_recv hKc hPc (ci := 13) (q0 := 0) rfl rfl, fun U hU hW => ⟨rfl, by rw [hU], by rw [hU]; exact hPc, va_K.moved hW.alike hKc, hDc.weaken (fun _ _ _ _ => trivial), zE.go hZ hS hU hW hFc⟩⟩ rfl rfl hl.1 rfl (lv_room (Nat.le_of_ble_eq_true rfl)) dX12_queryOf_62 ⟨Nat.le_of_ble_eq_true rfl, Nat.le_of_ble_eq_true rfl⟩) hS (fun q _ h => hFc q h) hFc (fun r_4 u t_ H1 locs ht hvm hw hB hz1 hk1 hS => ?_)
      obtain ⟨hP1, hK1, hD1⟩ := hB
      rw [ht] at hP1
      have hK1 := va_K.moved hvm.symm hK1
      obtain ⟨hP, hD⟩ := va_join (wr := [(a 60, .inl (cI, 60, .inl (upd (qa 0) q1 0))), (a 64, .inl (cI, 60, .inl (upd (qa 1) q1 0))), (a 68, .inl (cI, 60, .inl (upd (qa 2) q1 (-1)))), (a 65, .inl (cI, 60, .inl (upd (qa 3) q1 (-1))))]) (w1 := [(h0, .inr (13, moF a (upd (upd (upd (upd (upd (upd (upd (upd f 59 (nI (q1 + 1))) 18 (nI x1)) 21 0) 19 1) 20 (pf x1)) 34 (nI (s1 + 1))) 72 0) 71 (f 71)) w)), (a 14, .inl (cI, 2001, .inl sf)), (a 15, .inl (cI, 2001, .inl pf)), (a 36, .inl (cI, 60, .inl (upd (sa 0) s1 0))), (a 37, .inl (cI, 60, .inl (upd (sa 1) s1 0))), (a 38, .inl (cI, 60, .inl (upd (sa 2) s1 (-1)))), (a 39, .inl (cI, 60, .inl (upd (sa 3) s1 0))), (a 40, .inl (cI, 60, .inl (upd (sa 4) s1 (-1)))), (a 41, .inl (cI, 60, .inl (upd (sa 5) s1 (-1)))), (a 42, .inl (cI, 60, .inl (upd (sa 6) s1 0))), (a 43, .inl (cI, 60, .inl (upd (sa 7) s1 (-1)))), (a 35, .inl (cI, 60, .inl (upd (sa 8) s1 (-1))))]) hP hD [0, 1, 2, 3, 4, 5, 6, 7, 8, 9, 10, 11] [12, 13, 14, 15] rfl rfl (by decide) (by decide) hk1 hFc hP1 hD1
      have hK := (hK.sub (tys' := []) [] rfl).app hK1
      generalize H1 = H at hP hS ⊢
      have hP : va_P (dC, dI) vwCl [(a 60, .inl (cI, 60, .inl (upd (qa 0) q1 0))), (a 64, .inl (cI, 60, .inl (upd (qa 1) q1 0))), (a 68, .inl (cI, 60, .inl (upd (qa 2) q1 (-1)))), (a 65, .inl (cI, 60, .inl (upd (qa 3) q1 (-1)))), (h0, .inr (13, moF a (upd (upd (upd (upd (upd (upd (upd (upd f 59 (nI (q1 + 1))) 18 (nI x1)) 21 0) 19 1) 20 (pf x1)) 34 (nI (s1 + 1))) 72 0) 71 (f 71)) w)), (a 14, .inl (cI, 2001, .inl sf)), (a 15, .inl (cI, 2001, .inl pf)), (a 36, .inl (cI, 60, .inl (upd (sa 0) s1 0))), (a 37, .inl (cI, 60, .inl (upd (sa 1) s1 0))), (a 38, .inl (cI, 60, .inl (upd (sa 2) s1 (-1)))), (a 39, .inl (cI, 60, .inl (upd (sa 3) s1 0))), (a 40, .inl (cI, 60, .inl (upd (sa 4) s1 (-1)))), (a 41, .inl (cI, 60, .inl (upd (sa 5) s1 (-1)))), (a 42, .inl (cI, 60, .inl (upd (sa 6) s1 0))), (a 43, .inl (cI, 60, .inl (upd (sa 7) s1 (-1)))), (a 35, .inl (cI, 60, .inl (upd (sa 8) s1 (-1))))] H := hP
      have hD : va_D A [(a 60, .inl (cI, 60, .inl (upd (qa 0) q1 0))), (a 64, .inl (cI, 60, .inl (upd (qa 1) q1 0))), (a 68, .inl (cI, 60, .inl (upd (qa 2) q1 (-1)))), (a 65, .inl (cI, 60, .inl (upd (qa 3) q1 (-1)))), (h0, .inr (13, moF a (upd (upd (upd (upd (upd (upd (upd (upd f 59 (nI (q1 + 1))) 18 (nI x1)) 21 0) 19 1) 20 (pf x1)) 34 (nI (s1 + 1))) 72 0) 71 (f 71)) w)), (a 14, .inl (cI, 2001, .inl sf)), (a 15, .inl (cI, 2001, .inl pf)), (a 36, .inl (cI, 60, .inl (upd (sa 0) s1 0))), (a 37, .inl (cI, 60, .inl (upd (sa 1) s1 0))), (a 38, .inl (cI, 60, .inl (upd (sa 2) s1 (-1)))), (a 39, .inl (cI, 60, .inl (upd (sa 3) s1 0))), (a 40, .inl (cI, 60, .inl (upd (sa 4) s1 (-1)))), (a 41, .inl (cI, 60, .inl (upd (sa 5) s1 (-1)))), (a 42, .inl (cI, 60, .inl (upd (sa 6) s1 0))), (a 43, .inl (cI, 60, .inl (upd (sa 7) s1 (-1)))), (a 35, .inl (cI, 60, .inl (upd (sa 8) s1 (-1))))] := hD
      have hK : va_K (dC, dI) vwCl [(cB, .byte), (cI, .int), (cJ, .long), (cZ, .boolean)] s := hK
      have hnw : (0 : Int32) = 0 ∨ ¬ sf x1 = 1 := Or.inl rfl
      have er_4 : r_4 = nI s1 := hw
      rw [er_4]
      refine lv_istore (lv' := [(5, .int (nI s1)), (4, .int 0), (3, .int 0), (2, .int 1), (1, .int (nI q1)), (0, .ref h0)]) hx hb dX12_queryOf_65 hl (by decide) rfl (fun ls hl => ?_)
      refine lv_iconst (v := 5) hx hb dX12_queryOf_67 (by decide) ?_
      refine lv_iload_n hx hb dX12_queryOf_68 rfl (lv_at hl 4 rfl) ?_
      refine lv_imul hx hb dX12_queryOf_69 ?_
      refine lv_topi (fun x_5 ex_5 => ?_)
      have ex_5 : x_5 = nI (5 * q1) := ex_5.trans (pk_mul 5 q1)
      subst ex_5
      refine lv_aload_n hx hb dX12_queryOf_70 rfl (lv_at hl 5 rfl) ?_
      refine va_get (D := (dC, dI)) (ci := 13) (v := .ref (a 60)) (C := RX12) (T := TX12) (N := 115) hx hb hts (fun w h => List.mem_cons_of_mem _ (uG_X12 w h)) hown hK hP 4 rfl rfl 60 (by decide) (hts _ (List.mem_cons_of_mem _ kw_1751)) (fun _ h9 => h9) rfl dX12_queryOf_71 ?_
      refine lv_iload_n hx hb dX12_queryOf_74 rfl (lv_at hl 4 rfl) ?_
      refine va_iald hx hb hK hP 0 1 rfl rfl (i := (nI q1)) (vp_in_nI (n := q1) (N := 60) (by omega) (by omega)) dX12_queryOf_75 ?_
      refine lv_topi (fun x_6 ex_6 => ?_)
      have ex_6 : x_6 = (upd (qa 0) q1 0) q1 := ex_6.trans (congrArg (upd (qa 0) q1 0) (nI_clamp (n := q1) (by omega)))
      subst ex_6
      refine lv_iadd hx hb dX12_queryOf_76 ?_
      refine lv_istore (lv' := [(6, .int ((nI (5 * q1)) + ((upd (qa 0) q1 0) q1))), (5, .int (nI s1)), (4, .int 0), (3, .int 0), (2, .int 1), (1, .int (nI q1)), (0, .ref h0)]) hx hb dX12_queryOf_77 hl (by decide) rfl (fun ls hl => ?_)
      refine lv_aload_n hx hb dX12_queryOf_79 rfl (lv_at hl 6 rfl) ?_
      refine va_get (D := (dC, dI)) (ci := 13) (v := .int 0) (C := RX12) (T := TX12) (N := 115) hx hb hts (fun w h => List.mem_cons_of_mem _ (uG_X12 w h)) hown hK hP 4 rfl rfl 21 (by decide) (hts _ (List.mem_cons_of_mem _ kw_1712)) (fun _ h9 => h9) rfl dX12_queryOf_80 ?_
      refine lv_if_eq (tgt := 122) hx hb dX12_queryOf_83 (by decide) (fun c_7 => ?_) (fun c_7 => ?_)
      · skip
        refine lv_aload_n hx hb dX12_queryOf_122 rfl (lv_at hl 6 rfl) ?_
        refine va_get (D := (dC, dI)) (ci := 13) (v := .ref (a 15)) (C := RX12) (T := TX12) (N := 115) hx hb hts (fun w h => List.mem_cons_of_mem _ (uG_X12 w h)) hown hK hP 4 rfl rfl 15 (by decide) (hts _ (List.mem_cons_of_mem _ kw_1706)) (fun _ h9 => h9) rfl dX12_queryOf_123 ?_
        refine lv_aload_n hx hb dX12_queryOf_126 rfl (lv_at hl 6 rfl) ?_
        refine va_get (D := (dC, dI)) (ci := 13) (v := .int (nI x1)) (C := RX12) (T := TX12) (N := 115) hx hb hts (fun w h => List.mem_cons_of_mem _ (uG_X12 w h)) hown hK hP 4 rfl rfl 18 (by decide) (hts _ (List.mem_cons_of_mem _ kw_1709)) (fun _ h9 => h9) rfl dX12_queryOf_127 ?_
        refine va_iald hx hb hK hP 6 1 rfl rfl (i := (nI x1)) (vp_in_nI (n := x1) (N := 2001) (by omega) (by omega)) dX12_queryOf_130 ?_
        refine lv_topi (fun x_8 ex_8 => ?_)
        have ex_8 : x_8 = pf x1 := ex_8.trans (congrArg pf (nI_clamp (n := x1) (by omega)))
        subst ex_8
        refine lv_istore (lv' := [(4, .int (pf x1)), (6, .int ((nI (5 * q1)) + ((upd (qa 0) q1 0) q1))), (5, .int (nI s1)), (3, .int 0), (2, .int 1), (1, .int (nI q1)), (0, .ref h0)]) hx hb dX12_queryOf_131 hl (by decide) rfl (fun ls hl => ?_)
        refine lv_aload_n hx hb dX12_queryOf_133 rfl (lv_at hl 6 rfl) ?_
        refine va_ldcSW (own := RX12) (index := 459) (tx := soT 35) (q := K 35) hx hb hown (hZ.ref 35 (by decide)) dX12_queryOf_134 ?_
        have hPc := hP.sub (ws' := [(h0, .inr (13, moF a (upd (upd (upd (upd (upd (upd (upd (upd f 59 (nI (q1 + 1))) 18 (nI x1)) 21 0) 19 1) 20 (pf x1)) 34 (nI (s1 + 1))) 72 0) 71 (f 71)) w)), (a 14, .inl (cI, 2001, .inl sf))]) [4, 5] rfl
        have hDc := hD.sub (ws' := [(h0, .inr (13, moF a (upd (upd (upd (upd (upd (upd (upd (upd f 59 (nI (q1 + 1))) 18 (nI x1)) 21 0) 19 1) 20 (pf x1)) 34 (nI (s1 + 1))) 72 0) 71 (f 71)) w)), (a 14, .inl (cI, 2001, .inl sf))]) [4, 5] (by decide) rfl
        have hKc := hK.sub (tys' := [(cB, .byte), (cI, .int), (cJ, .long), (cZ, .boolean)]) [0, 1, 2, 3] rfl
        have hFc := va_free (wc := [(h0, .inr (13, moF a (upd (upd (upd (upd (upd (upd (upd (upd f 59 (nI (q1 + 1))) 18 (nI x1)) 21 0) 19 1) 20 (pf x1)) 34 (nI (s1 + 1))) 72 0) 71 (f 71)) w)), (a 14, .inl (cI, 2001, .inl sf))]) hD hS hA [4, 5] rfl
        refine va_calli (va_runV (As := [.ref (K 35)]) (rest := []) ⟨hx, hb, hml, hown, hts⟩ (t_X12_takeWord_n l dC dI H.size cB cI cJ cZ h0 a (upd (upd (upd (upd (upd (upd (upd (upd f 59 (nI (q1 + 1))) 18 (nI x1)) 21 0) 19 1) 20 (pf x1)) 34 (nI (s1 + 1))) 72 0) 71 (f 71)) w x1 sf pf 35 K V fz hx1 hnw) (cwV 1 hts (gd_all (in_V kw_2238 kw_2240 kw_134 kw_191 kc_X12_takeWord)) rfl rfl rfl (by decide +kernel) ⟨Nat.le_of_ble_eq_true rfl, Nat.le_of_ble_eq_true rfl⟩) ⟨fun a U g mk q => by obtain ⟨q0, q1, qP, qK, qD, qZ⟩ := q; exact ⟨q0, q1, qP, va_K.moved (u := U) (U := U.calling g mk a) (Vm.Alike.refl U.vm) qK, qD, zE.same (u := U) (U := U.calling g mk a) rfl rfl qZ⟩, va_recv hKc hPc (ci := 13) (q0 := 0) rfl rfl, fun U hU hW => ⟨rfl, by rw [hU], by rw [hU]; exact hPc, va_K.moved hW.alike hKc, hDc.weaken (fun _ _ _ _ => trivial), zE.go hZ hS hU hW hFc⟩⟩ rfl rfl hl.1 rfl (lv_room (Nat.le_of_ble_eq_true rfl)) dX12_queryOf_137 ⟨Nat.le_of_ble_eq_true rfl, Nat.le_of_ble_eq_true rfl⟩) hS (fun q _ h => hFc q h) hFc (fun r_9 u t_ H1 locs ht hvm hw hB hz1 hk1 hS => ?_)
        obtain ⟨hP1, hK1, hD1⟩ := hB
        rw [ht] at hP1
        have hK1 := va_K.moved hvm.symm hK1
        obtain ⟨hP, hD⟩ := va_join (wr := [(a 60, .inl (cI, 60, .inl (upd (qa 0) q1 0))), (a 64, .inl (cI, 60, .inl (upd (qa 1) q1 0))), (a 68, .inl (cI, 60, .inl (upd (qa 2) q1 (-1)))), (a 65, .inl (cI, 60, .inl (upd (qa 3) q1 (-1)))), (a 15, .inl (cI, 2001, .inl pf)), (a 36, .inl (cI, 60, .inl (upd (sa 0) s1 0))), (a 37, .inl (cI, 60, .inl (upd (sa 1) s1 0))), (a 38, .inl (cI, 60, .inl (upd (sa 2) s1 (-1)))), (a 39, .inl (cI, 60, .inl (upd (sa 3) s1 0))), (a 40, .inl (cI, 60, .inl (upd (sa 4) s1 (-1)))), (a 41, .inl (cI, 60, .inl (upd (sa 5) s1 (-1)))), (a 42, .inl (cI, 60, .inl (upd (sa 6) s1 0))), (a 43, .inl (cI, 60, .inl (upd (sa 7) s1 (-1)))), (a 35, .inl (cI, 60, .inl (upd (sa 8) s1 (-1))))]) (w1 := [(h0, .inr (13, moF a (upd (upd (upd (upd (upd (upd (upd (upd f 59 (nI (q1 + 1))) 18 (nI x1)) 21 0) 19 1) 20 (pf x1)) 34 (nI (s1 + 1))) 72 0) 71 (f 71)) w)), (a 14, .inl (cI, 2001, .inl sf))]) hP hD [4, 5] [0, 1, 2, 3, 6, 7, 8, 9, 10, 11, 12, 13, 14, 15] rfl rfl (by decide) (by decide) hk1 hFc hP1 hD1
        have hK := (hK.sub (tys' := []) [] rfl).app hK1
        generalize H1 = H at hP hS ⊢
        have hP : va_P (dC, dI) vwCl [(a 60, .inl (cI, 60, .inl (upd (qa 0) q1 0))), (a 64, .inl (cI, 60, .inl (upd (qa 1) q1 0))), (a 68, .inl (cI, 60, .inl (upd (qa 2) q1 (-1)))), (a 65, .inl (cI, 60, .inl (upd (qa 3) q1 (-1)))), (a 15, .inl (cI, 2001, .inl pf)), (a 36, .inl (cI, 60, .inl (upd (sa 0) s1 0))), (a 37, .inl (cI, 60, .inl (upd (sa 1) s1 0))), (a 38, .inl (cI, 60, .inl (upd (sa 2) s1 (-1)))), (a 39, .inl (cI, 60, .inl (upd (sa 3) s1 0))), (a 40, .inl (cI, 60, .inl (upd (sa 4) s1 (-1)))), (a 41, .inl (cI, 60, .inl (upd (sa 5) s1 (-1)))), (a 42, .inl (cI, 60, .inl (upd (sa 6) s1 0))), (a 43, .inl (cI, 60, .inl (upd (sa 7) s1 (-1)))), (a 35, .inl (cI, 60, .inl (upd (sa 8) s1 (-1)))), (h0, .inr (13, moF a (upd (upd (upd (upd (upd (upd (upd (upd f 59 (nI (q1 + 1))) 18 (nI x1)) 21 0) 19 1) 20 (pf x1)) 34 (nI (s1 + 1))) 72 0) 71 (f 71)) w)), (a 14, .inl (cI, 2001, .inl sf))] H := hP
        have hD : va_D A [(a 60, .inl (cI, 60, .inl (upd (qa 0) q1 0))), (a 64, .inl (cI, 60, .inl (upd (qa 1) q1 0))), (a 68, .inl (cI, 60, .inl (upd (qa 2) q1 (-1)))), (a 65, .inl (cI, 60, .inl (upd (qa 3) q1 (-1)))), (a 15, .inl (cI, 2001, .inl pf)), (a 36, .inl (cI, 60, .inl (upd (sa 0) s1 0))), (a 37, .inl (cI, 60, .inl (upd (sa 1) s1 0))), (a 38, .inl (cI, 60, .inl (upd (sa 2) s1 (-1)))), (a 39, .inl (cI, 60, .inl (upd (sa 3) s1 0))), (a 40, .inl (cI, 60, .inl (upd (sa 4) s1 (-1)))), (a 41, .inl (cI, 60, .inl (upd (sa 5) s1 (-1)))), (a 42, .inl (cI, 60, .inl (upd (sa 6) s1 0))), (a 43, .inl (cI, 60, .inl (upd (sa 7) s1 (-1)))), (a 35, .inl (cI, 60, .inl (upd (sa 8) s1 (-1)))), (h0, .inr (13, moF a (upd (upd (upd (upd (upd (upd (upd (upd f 59 (nI (q1 + 1))) 18 (nI x1)) 21 0) 19 1) 20 (pf x1)) 34 (nI (s1 + 1))) 72 0) 71 (f 71)) w)), (a 14, .inl (cI, 2001, .inl sf))] := hD
        have hK : va_K (dC, dI) vwCl [(cB, .byte), (cI, .int), (cJ, .long), (cZ, .boolean)] s := hK
        have er_9 : r_9 = 0 := hw
        rw [er_9]
        refine lv_if_eq (tgt := 162) hx hb dX12_queryOf_140 (by decide) (fun c_10 => ?_) (fun c_10 => ?_)
        · skip
          refine lv_aload_n hx hb dX12_queryOf_162 rfl (lv_at hl 6 rfl) ?_
          refine va_ldcSW (own := RX12) (index := 463) (tx := soT 37) (q := K 37) hx hb hown (hZ.ref 37 (by decide)) dX12_queryOf_163 ?_
          have hPc := hP.sub (ws' := [(h0, .inr (13, moF a (upd (upd (upd (upd (upd (upd (upd (upd f 59 (nI (q1 + 1))) 18 (nI x1)) 21 0) 19 1) 20 (pf x1)) 34 (nI (s1 + 1))) 72 0) 71 (f 71)) w)), (a 14, .inl (cI, 2001, .inl sf))]) [14, 15] rfl
          have hDc := hD.sub (ws' := [(h0, .inr (13, moF a (upd (upd (upd (upd (upd (upd (upd (upd f 59 (nI (q1 + 1))) 18 (nI x1)) 21 0) 19 1) 20 (pf x1)) 34 (nI (s1 + 1))) 72 0) 71 (f 71)) w)), (a 14, .inl (cI, 2001, .inl sf))]) [14, 15] (by decide) rfl
          have hKc := hK.sub (tys' := [(cB, .byte), (cI, .int), (cJ, .long), (cZ, .boolean)]) [0, 1, 2, 3] rfl
          have hFc := va_free (wc := [(h0, .inr (13, moF a (upd (upd (upd (upd (upd (upd (upd (upd f 59 (nI (q1 + 1))) 18 (nI x1)) 21 0) 19 1) 20 (pf x1)) 34 (nI (s1 + 1))) 72 0) 71 (f 71)) w)), (a 14, .inl (cI, 2001, .inl sf))]) hD hS hA [14, 15] rfl
          refine va_calli (va_runV (As := [.ref (K 37)]) (rest := []) ⟨hx, hb, hml, hown, hts⟩ (t_X12_takeWord_n l dC dI H.size cB cI cJ cZ h0 a (upd (upd (upd (upd (upd (upd (upd (upd f 59 (nI (q1 + 1))) 18 (nI x1)) 21 0) 19 1) 20 (pf x1)) 34 (nI (s1 + 1))) 72 0) 71 (f 71)) w x1 sf pf 37 K V fz hx1 hnw) (cwV 1 hts (gd_all (in_V kw_2238 kw_2240 kw_134 kw_191 kc_X12_takeWord)) rfl rfl rfl (by decide +kernel) ⟨Nat.le_of_ble_eq_true rfl, Nat.le_of_ble_eq_true rfl⟩) ⟨fun a U g mk q => by obtain ⟨q0, q1, qP, qK, qD, qZ⟩ := q; exact ⟨q0, q1, qP, va_K.moved (u := U) (U := U.calling g mk a) (Vm.Alike.refl U.vm) qK, qD, zE.same (u := U) (U := U.calling g mk a) rfl rfl qZ⟩, va_recv hKc hPc (ci := 13) (q0 := 0) rfl rfl, fun U hU hW => ⟨rfl, by rw [hU], by rw [hU]; exact hPc, va_K.moved hW.alike hKc, hDc.weaken (fun _ _ _ _ => trivial), zE.go hZ hS hU hW hFc⟩⟩ rfl rfl hl.1 rfl (lv_room (Nat.le_of_ble_eq_true rfl)) dX12_queryOf_166 ⟨Nat.le_of_ble_eq_true rfl, Nat.le_of_ble_eq_true rfl⟩) hS (fun q _ h => hFc q h) hFc (fun r_11 u t_ H1 locs ht hvm hw hB hz1 hk1 hS => ?_)
          obtain ⟨hP1, hK1, hD1⟩ := hB
          rw [ht] at hP1
          have hK1 := va_K.moved hvm.symm hK1
          obtain ⟨hP, hD⟩ := va_join (wr := [(a 60, .inl (cI, 60, .inl (upd (qa 0) q1 0))), (a 64, .inl (cI, 60, .inl (upd (qa 1) q1 0))), (a 68, .inl (cI, 60, .inl (upd (qa 2) q1 (-1)))), (a 65, .inl (cI, 60, .inl (upd (qa 3) q1 (-1)))), (a 15, .inl (cI, 2001, .inl pf)), (a 36, .inl (cI, 60, .inl (upd (sa 0) s1 0))), (a 37, .inl (cI, 60, .inl (upd (sa 1) s1 0))), (a 38, .inl (cI, 60, .inl (upd (sa 2) s1 (-1)))), (a 39, .inl (cI, 60, .inl (upd (sa 3) s1 0))), (a 40, .inl (cI, 60, .inl (upd (sa 4) s1 (-1)))), (a 41, .inl (cI, 60, .inl (upd (sa 5) s1 (-1)))), (a 42, .inl (cI, 60, .inl (upd (sa 6) s1 0))), (a 43, .inl (cI, 60, .inl (upd (sa 7) s1 (-1)))), (a 35, .inl (cI, 60, .inl (upd (sa 8) s1 (-1))))]) (w1 := [(h0, .inr (13, moF a (upd (upd (upd (upd (upd (upd (upd (upd f 59 (nI (q1 + 1))) 18 (nI x1)) 21 0) 19 1) 20 (pf x1)) 34 (nI (s1 + 1))) 72 0) 71 (f 71)) w)), (a 14, .inl (cI, 2001, .inl sf))]) hP hD [14, 15] [0, 1, 2, 3, 4, 5, 6, 7, 8, 9, 10, 11, 12, 13] rfl rfl (by decide) (by decide) hk1 hFc hP1 hD1
          have hK := (hK.sub (tys' := []) [] rfl).app hK1
          generalize H1 = H at hP hS ⊢
          have hP : va_P (dC, dI) vwCl [(a 60, .inl (cI, 60, .inl (upd (qa 0) q1 0))), (a 64, .inl (cI, 60, .inl (upd (qa 1) q1 0))), (a 68, .inl (cI, 60, .inl (upd (qa 2) q1 (-1)))), (a 65, .inl (cI, 60, .inl (upd (qa 3) q1 (-1)))), (a 15, .inl (cI, 2001, .inl pf)), (a 36, .inl (cI, 60, .inl (upd (sa 0) s1 0))), (a 37, .inl (cI, 60, .inl (upd (sa 1) s1 0))), (a 38, .inl (cI, 60, .inl (upd (sa 2) s1 (-1)))), (a 39, .inl (cI, 60, .inl (upd (sa 3) s1 0))), (a 40, .inl (cI, 60, .inl (upd (sa 4) s1 (-1)))), (a 41, .inl (cI, 60, .inl (upd (sa 5) s1 (-1)))), (a 42, .inl (cI, 60, .inl (upd (sa 6) s1 0))), (a 43, .inl (cI, 60, .inl (upd (sa 7) s1 (-1)))), (a 35, .inl (cI, 60, .inl (upd (sa 8) s1 (-1)))), (h0, .inr (13, moF a (upd (upd (upd (upd (upd (upd (upd (upd f 59 (nI (q1 + 1))) 18 (nI x1)) 21 0) 19 1) 20 (pf x1)) 34 (nI (s1 + 1))) 72 0) 71 (f 71)) w)), (a 14, .inl (cI, 2001, .inl sf))] H := hP
          have hD : va_D A [(a 60, .inl (cI, 60, .inl (upd (qa 0) q1 0))), (a 64, .inl (cI, 60, .inl (upd (qa 1) q1 0))), (a 68, .inl (cI, 60, .inl (upd (qa 2) q1 (-1)))), (a 65, .inl (cI, 60, .inl (upd (qa 3) q1 (-1)))), (a 15, .inl (cI, 2001, .inl pf)), (a 36, .inl (cI, 60, .inl (upd (sa 0) s1 0))), (a 37, .inl (cI, 60, .inl (upd (sa 1) s1 0))), (a 38, .inl (cI, 60, .inl (upd (sa 2) s1 (-1)))), (a 39, .inl (cI, 60, .inl (upd (sa 3) s1 0))), (a 40, .inl (cI, 60, .inl (upd (sa 4) s1 (-1)))), (a 41, .inl (cI, 60, .inl (upd (sa 5) s1 (-1)))), (a 42, .inl (cI, 60, .inl (upd (sa 6) s1 0))), (a 43, .inl (cI, 60, .inl (upd (sa 7) s1 (-1)))), (a 35, .inl (cI, 60, .inl (upd (sa 8) s1 (-1)))), (h0, .inr (13, moF a (upd (upd (upd (upd (upd (upd (upd (upd f 59 (nI (q1 + 1))) 18 (nI x1)) 21 0) 19 1) 20 (pf x1)) 34 (nI (s1 + 1))) 72 0) 71 (f 71)) w)), (a 14, .inl (cI, 2001, .inl sf))] := hD
          have hK : va_K (dC, dI) vwCl [(cB, .byte), (cI, .int), (cJ, .long), (cZ, .boolean)] s := hK
          have er_11 : r_11 = 0 := hw
          rw [er_11]
          refine lv_if_eq (tgt := 177) hx hb dX12_queryOf_169 (by decide) (fun c_12 => ?_) (fun c_12 => ?_)
          · skip
            refine lv_aload_n hx hb dX12_queryOf_177 rfl (lv_at hl 6 rfl) ?_
            refine va_ldcSW (own := RX12) (index := 465) (tx := soT 38) (q := K 38) hx hb hown (hZ.ref 38 (by decide)) dX12_queryOf_178 ?_
            have hPc := hP.sub (ws' := [(h0, .inr (13, moF a (upd (upd (upd (upd (upd (upd (upd (upd f 59 (nI (q1 + 1))) 18 (nI x1)) 21 0) 19 1) 20 (pf x1)) 34 (nI (s1 + 1))) 72 0) 71 (f 71)) w)), (a 14, .inl (cI, 2001, .inl sf))]) [14, 15] rfl
            have hDc := hD.sub (ws' := [(h0, .inr (13, moF a (upd (upd (upd (upd (upd (upd (upd (upd f 59 (nI (q1 + 1))) 18 (nI x1)) 21 0) 19 1) 20 (pf x1)) 34 (nI (s1 + 1))) 72 0) 71 (f 71)) w)), (a 14, .inl (cI, 2001, .inl sf))]) [14, 15] (by decide) rfl
            have hKc := hK.sub (tys' := [(cB, .byte), (cI, .int), (cJ, .long), (cZ, .boolean)]) [0, 1, 2, 3] rfl
            have hFc := va_free (wc := [(h0, .inr (13, moF a (upd (upd (upd (upd (upd (upd (upd (upd f 59 (nI (q1 + 1))) 18 (nI x1)) 21 0) 19 1) 20 (pf x1)) 34 (nI (s1 + 1))) 72 0) 71 (f 71)) w)), (a 14, .inl (cI, 2001, .inl sf))]) hD hS hA [14, 15] rfl
            refine va_calli (va_runV (As := [.ref (K 38)]) (rest := []) ⟨hx, hb, hml, hown, hts⟩ (t_X12_takeWord_n l dC dI H.size cB cI cJ cZ h0 a (upd (upd (upd (upd (upd (upd (upd (upd f 59 (nI (q1 + 1))) 18 (nI x1)) 21 0) 19 1) 20 (pf x1)) 34 (nI (s1 + 1))) 72 0) 71 (f 71)) w x1 sf pf 38 K V fz hx1 hnw) (cwV 1 hts (gd_all (in_V kw_2238 kw_2240 kw_134 kw_191 kc_X12_takeWord)) rfl rfl rfl (by decide +kernel) ⟨Nat.le_of_ble_eq_true rfl, Nat.le_of_ble_eq_true rfl⟩) ⟨fun a U g mk q => by obtain ⟨q0, q1, qP, qK, qD, qZ⟩ := q; exact ⟨q0, q1, qP, va_K.moved (u := U) (U := U.calling g mk a) (Vm.Alike.refl U.vm) qK, qD, zE.same (u := U) (U := U.calling g mk a) rfl rfl qZ⟩, va_recv hKc hPc (ci := 13) (q0 := 0) rfl rfl, fun U hU hW => ⟨rfl, by rw [hU], by rw [hU]; exact hPc, va_K.moved hW.alike hKc, hDc.weaken (fun _ _ _ _ => trivial), zE.go hZ hS hU hW hFc⟩⟩ rfl rfl hl.1 rfl (lv_room (Nat.le_of_ble_eq_true rfl)) dX12_queryOf_181 ⟨Nat.le_of_ble_eq_true rfl, Nat.le_of_ble_eq_true rfl⟩) hS (fun q _ h => hFc q h) hFc (fun r_13 u t_ H1 locs ht hvm hw hB hz1 hk1 hS => ?_)
            obtain ⟨hP1, hK1, hD1⟩ := hB
            rw [ht] at hP1
            have hK1 := va_K.moved hvm.symm hK1
            obtain ⟨hP, hD⟩ := va_join (wr := [(a 60, .inl (cI, 60, .inl (upd (qa 0) q1 0))), (a 64, .inl (cI, 60, .inl (upd (qa 1) q1 0))), (a 68, .inl (cI, 60, .inl (upd (qa 2) q1 (-1)))), (a 65, .inl (cI, 60, .inl (upd (qa 3) q1 (-1)))), (a 15, .inl (cI, 2001, .inl pf)), (a 36, .inl (cI, 60, .inl (upd (sa 0) s1 0))), (a 37, .inl (cI, 60, .inl (upd (sa 1) s1 0))), (a 38, .inl (cI, 60, .inl (upd (sa 2) s1 (-1)))), (a 39, .inl (cI, 60, .inl (upd (sa 3) s1 0))), (a 40, .inl (cI, 60, .inl (upd (sa 4) s1 (-1)))), (a 41, .inl (cI, 60, .inl (upd (sa 5) s1 (-1)))), (a 42, .inl (cI, 60, .inl (upd (sa 6) s1 0))), (a 43, .inl (cI, 60, .inl (upd (sa 7) s1 (-1)))), (a 35, .inl (cI, 60, .inl (upd (sa 8) s1 (-1))))]) (w1 := [(h0, .inr (13, moF a (upd (upd (upd (upd (upd (upd (upd (upd f 59 (nI (q1 + 1))) 18 (nI x1)) 21 0) 19 1) 20 (pf x1)) 34 (nI (s1 + 1))) 72 0) 71 (f 71)) w)), (a 14, .inl (cI, 2001, .inl sf))]) hP hD [14, 15] [0, 1, 2, 3, 4, 5, 6, 7, 8, 9, 10, 11, 12, 13] rfl rfl (by decide) (by decide) hk1 hFc hP1 hD1
            have hK := (hK.sub (tys' := []) [] rfl).app hK1
            generalize H1 = H at hP hS ⊢
            have hP : va_P (dC, dI) vwCl [(a 60, .inl (cI, 60, .inl (upd (qa 0) q1 0))), (a 64, .inl (cI, 60, .inl (upd (qa 1) q1 0))), (a 68, .inl (cI, 60, .inl (upd (qa 2) q1 (-1)))), (a 65, .inl (cI, 60, .inl (upd (qa 3) q1 (-1)))), (a 15, .inl (cI, 2001, .inl pf)), (a 36, .inl (cI, 60, .inl (upd (sa 0) s1 0))), (a 37, .inl (cI, 60, .inl (upd (sa 1) s1 0))), (a 38, .inl (cI, 60, .inl (upd (sa 2) s1 (-1)))), (a 39, .inl (cI, 60, .inl (upd (sa 3) s1 0))), (a 40, .inl (cI, 60, .inl (upd (sa 4) s1 (-1)))), (a 41, .inl (cI, 60, .inl (upd (sa 5) s1 (-1)))), (a 42, .inl (cI, 60, .inl (upd (sa 6) s1 0))), (a 43, .inl (cI, 60, .inl (upd (sa 7) s1 (-1)))), (a 35, .inl (cI, 60, .inl (upd (sa 8) s1 (-1)))), (h0, .inr (13, moF a (upd (upd (upd (upd (upd (upd (upd (upd f 59 (nI (q1 + 1))) 18 (nI x1)) 21 0) 19 1) 20 (pf x1)) 34 (nI (s1 + 1))) 72 0) 71 (f 71)) w)), (a 14, .inl (cI, 2001, .inl sf))] H := hP
            have hD : va_D A [(a 60, .inl (cI, 60, .inl (upd (qa 0) q1 0))), (a 64, .inl (cI, 60, .inl (upd (qa 1) q1 0))), (a 68, .inl (cI, 60, .inl (upd (qa 2) q1 (-1)))), (a 65, .inl (cI, 60, .inl (upd (qa 3) q1 (-1)))), (a 15, .inl (cI, 2001, .inl pf)), (a 36, .inl (cI, 60, .inl (upd (sa 0) s1 0))), (a 37, .inl (cI, 60, .inl (upd (sa 1) s1 0))), (a 38, .inl (cI, 60, .inl (upd (sa 2) s1 (-1)))), (a 39, .inl (cI, 60, .inl (upd (sa 3) s1 0))), (a 40, .inl (cI, 60, .inl (upd (sa 4) s1 (-1)))), (a 41, .inl (cI, 60, .inl (upd (sa 5) s1 (-1)))), (a 42, .inl (cI, 60, .inl (upd (sa 6) s1 0))), (a 43, .inl (cI, 60, .inl (upd (sa 7) s1 (-1)))), (a 35, .inl (cI, 60, .inl (upd (sa 8) s1 (-1)))), (h0, .inr (13, moF a (upd (upd (upd (upd (upd (upd (upd (upd f 59 (nI (q1 + 1))) 18 (nI x1)) 21 0) 19 1) 20 (pf x1)) 34 (nI (s1 + 1))) 72 0) 71 (f 71)) w)), (a 14, .inl (cI, 2001, .inl sf))] := hD
            have hK : va_K (dC, dI) vwCl [(cB, .byte), (cI, .int), (cJ, .long), (cZ, .boolean)] s := hK
            have er_13 : r_13 = 0 := hw
            rw [er_13]
            refine lv_if_eq (tgt := 192) hx hb dX12_queryOf_184 (by decide) (fun c_14 => ?_) (fun c_14 => ?_)
            · skip
              refine lv_iconst (v := 0) hx hb dX12_queryOf_192 (by decide) ?_
              refine lv_istore_n (lv' := [(2, .int 0), (4, .int (pf x1)), (6, .int ((nI (5 * q1)) + ((upd (qa 0) q1 0) q1))), (5, .int (nI s1)), (3, .int 0), (1, .int (nI q1)), (0, .ref h0)]) hx hb dX12_queryOf_193 rfl hl (by decide) rfl (fun ls hl => ?_)
              refine lv_goto (tgt := 50) hx hb dX12_queryOf_194 (by decide) ?_
              refine lv_iload_n hx hb dX12_queryOf_50 rfl (lv_at hl 0 rfl) ?_
              refine lv_if_eq (tgt := 197) hx hb dX12_queryOf_51 (by decide) (fun c_15 => ?_) (fun c_15 => ?_)
              · skip
                refine lv_aload_n hx hb dX12_queryOf_197 rfl (lv_at hl 6 rfl) ?_
                refine va_ldcSW (own := RX12) (index := 467) (tx := soT 39) (q := K 39) hx hb hown (hZ.ref 39 (by decide)) dX12_queryOf_198 ?_
                have hPc := hP.sub (ws' := [(h0, .inr (13, moF a (upd (upd (upd (upd (upd (upd (upd (upd f 59 (nI (q1 + 1))) 18 (nI x1)) 21 0) 19 1) 20 (pf x1)) 34 (nI (s1 + 1))) 72 0) 71 (f 71)) w)), (a 14, .inl (cI, 2001, .inl sf))]) [14, 15] rfl
                have hDc := hD.sub (ws' := [(h0, .inr (13, moF a (upd (upd (upd (upd (upd (upd (upd (upd f 59 (nI (q1 + 1))) 18 (nI x1)) 21 0) 19 1) 20 (pf x1)) 34 (nI (s1 + 1))) 72 0) 71 (f 71)) w)), (a 14, .inl (cI, 2001, .inl sf))]) [14, 15] (by decide) rfl
                have hKc := hK.sub (tys' := [(cB, .byte), (cI, .int), (cJ, .long), (cZ, .boolean)]) [0, 1, 2, 3] rfl
                have hFc := va_free (wc := [(h0, .inr (13, moF a (upd (upd (upd (upd (upd (upd (upd (upd f 59 (nI (q1 + 1))) 18 (nI x1)) 21 0) 19 1) 20 (pf x1)) 34 (nI (s1 + 1))) 72 0) 71 (f 71)) w)), (a 14, .inl (cI, 2001, .inl sf))]) hD hS hA [14, 15] rfl
                refine va_calli (va_runV (As := [.ref (K 39)]) (rest := []) ⟨hx, hb, hml, hown, hts⟩ (t_X12_isWord_n l dC dI H.size cB cI cJ cZ h0 a (upd (upd (upd (upd (upd (upd (upd (upd f 59 (nI (q1 + 1))) 18 (nI x1)) 21 0) 19 1) 20 (pf x1)) 34 (nI (s1 + 1))) 72 0) 71 (f 71)) w x1 sf pf 39 K V fz hx1 hnw) (cwV 1 hts (gd_all (in_V kw_2242 kw_2244 kw_135 kw_191 kc_X12_isWord)) rfl rfl rfl (by decide +kernel) ⟨Nat.le_of_ble_eq_true rfl, Nat.le_of_ble_eq_true rfl⟩) ⟨fun a U g mk q => by obtain ⟨q0, q1, qP, qK, qD, qZ⟩ := q; exact ⟨q0, q1, qP, va_K.moved (u := U) (U := U.calling g mk a) (Vm.Alike.refl U.vm) qK, qD, zE.same (u := U) (U := U.calling g mk a) rfl rfl qZ⟩, va_recv hKc hPc (ci := 13) (q0 := 0) rfl rfl, fun U hU hW => ⟨rfl, by rw [hU], by rw [hU]; exact hPc, va_K.moved hW.alike hKc, hDc.weaken (fun _ _ _ _ => trivial), zE.go hZ hS hU hW hFc⟩⟩ rfl rfl hl.1 rfl (lv_room (Nat.le_of_ble_eq_true rfl)) dX12_queryOf_201 ⟨Nat.le_of_ble_eq_true rfl, Nat.le_of_ble_eq_true rfl⟩) hS (fun q _ h => hFc q h) hFc (fun r_16 u t_ H1 locs ht hvm hw hB hz1 hk1 hS => ?_)
                obtain ⟨hP1, hK1, hD1⟩ := hB
                rw [ht] at hP1
                have hK1 := va_K.moved hvm.symm hK1
                obtain ⟨hP, hD⟩ := va_join (wr := [(a 60, .inl (cI, 60, .inl (upd (qa 0) q1 0))), (a 64, .inl (cI, 60, .inl (upd (qa 1) q1 0))), (a 68, .inl (cI, 60, .inl (upd (qa 2) q1 (-1)))), (a 65, .inl (cI, 60, .inl (upd (qa 3) q1 (-1)))), (a 15, .inl (cI, 2001, .inl pf)), (a 36, .inl (cI, 60, .inl (upd (sa 0) s1 0))), (a 37, .inl (cI, 60, .inl (upd (sa 1) s1 0))), (a 38, .inl (cI, 60, .inl (upd (sa 2) s1 (-1)))), (a 39, .inl (cI, 60, .inl (upd (sa 3) s1 0))), (a 40, .inl (cI, 60, .inl (upd (sa 4) s1 (-1)))), (a 41, .inl (cI, 60, .inl (upd (sa 5) s1 (-1)))), (a 42, .inl (cI, 60, .inl (upd (sa 6) s1 0))), (a 43, .inl (cI, 60, .inl (upd (sa 7) s1 (-1)))), (a 35, .inl (cI, 60, .inl (upd (sa 8) s1 (-1))))]) (w1 := [(h0, .inr (13, moF a (upd (upd (upd (upd (upd (upd (upd (upd f 59 (nI (q1 + 1))) 18 (nI x1)) 21 0) 19 1) 20 (pf x1)) 34 (nI (s1 + 1))) 72 0) 71 (f 71)) w)), (a 14, .inl (cI, 2001, .inl sf))]) hP hD [14, 15] [0, 1, 2, 3, 4, 5, 6, 7, 8, 9, 10, 11, 12, 13] rfl rfl (by decide) (by decide) hk1 hFc hP1 hD1
                have hK := (hK.sub (tys' := []) [] rfl).app hK1
                generalize H1 = H at hP hS ⊢
                have hP : va_P (dC, dI) vwCl [(a 60, .inl (cI, 60, .inl (upd (qa 0) q1 0))), (a 64, .inl (cI, 60, .inl (upd (qa 1) q1 0))), (a 68, .inl (cI, 60, .inl (upd (qa 2) q1 (-1)))), (a 65, .inl (cI, 60, .inl (upd (qa 3) q1 (-1)))), (a 15, .inl (cI, 2001, .inl pf)), (a 36, .inl (cI, 60, .inl (upd (sa 0) s1 0))), (a 37, .inl (cI, 60, .inl (upd (sa 1) s1 0))), (a 38, .inl (cI, 60, .inl (upd (sa 2) s1 (-1)))), (a 39, .inl (cI, 60, .inl (upd (sa 3) s1 0))), (a 40, .inl (cI, 60, .inl (upd (sa 4) s1 (-1)))), (a 41, .inl (cI, 60, .inl (upd (sa 5) s1 (-1)))), (a 42, .inl (cI, 60, .inl (upd (sa 6) s1 0))), (a 43, .inl (cI, 60, .inl (upd (sa 7) s1 (-1)))), (a 35, .inl (cI, 60, .inl (upd (sa 8) s1 (-1)))), (h0, .inr (13, moF a (upd (upd (upd (upd (upd (upd (upd (upd f 59 (nI (q1 + 1))) 18 (nI x1)) 21 0) 19 1) 20 (pf x1)) 34 (nI (s1 + 1))) 72 0) 71 (f 71)) w)), (a 14, .inl (cI, 2001, .inl sf))] H := hP
                have hD : va_D A [(a 60, .inl (cI, 60, .inl (upd (qa 0) q1 0))), (a 64, .inl (cI, 60, .inl (upd (qa 1) q1 0))), (a 68, .inl (cI, 60, .inl (upd (qa 2) q1 (-1)))), (a 65, .inl (cI, 60, .inl (upd (qa 3) q1 (-1)))), (a 15, .inl (cI, 2001, .inl pf)), (a 36, .inl (cI, 60, .inl (upd (sa 0) s1 0))), (a 37, .inl (cI, 60, .inl (upd (sa 1) s1 0))), (a 38, .inl (cI, 60, .inl (upd (sa 2) s1 (-1)))), (a 39, .inl (cI, 60, .inl (upd (sa 3) s1 0))), (a 40, .inl (cI, 60, .inl (upd (sa 4) s1 (-1)))), (a 41, .inl (cI, 60, .inl (upd (sa 5) s1 (-1)))), (a 42, .inl (cI, 60, .inl (upd (sa 6) s1 0))), (a 43, .inl (cI, 60, .inl (upd (sa 7) s1 (-1)))), (a 35, .inl (cI, 60, .inl (upd (sa 8) s1 (-1)))), (h0, .inr (13, moF a (upd (upd (upd (upd (upd (upd (upd (upd f 59 (nI (q1 + 1))) 18 (nI x1)) 21 0) 19 1) 20 (pf x1)) 34 (nI (s1 + 1))) 72 0) 71 (f 71)) w)), (a 14, .inl (cI, 2001, .inl sf))] := hD
                have hK : va_K (dC, dI) vwCl [(cB, .byte), (cI, .int), (cJ, .long), (cZ, .boolean)] s := hK
                have er_16 : r_16 = 0 := hw
                rw [er_16]
                refine lv_if_eq (tgt := 456) hx hb dX12_queryOf_204 (by decide) (fun c_17 => ?_) (fun c_17 => ?_)
                · skip
                  refine lv_iload_n hx hb dX12_queryOf_456 rfl (lv_at hl 5 rfl) ?_
                  have hP9 := hP.sub (ws' := [(h0, .inr (13, moF a (upd (upd (upd (upd (upd (upd (upd (upd f 59 (nI (q1 + 1))) 18 (nI x1)) 21 0) 19 1) 20 (pf x1)) 34 (nI (s1 + 1))) 72 0) 71 (f 71)) w)), (a 14, .inl (cI, 2001, .inl sf)), (a 15, .inl (cI, 2001, .inl pf)), (a 36, .inl (cI, 60, .inl (upd (sa 0) s1 0))), (a 37, .inl (cI, 60, .inl (upd (sa 1) s1 0))), (a 38, .inl (cI, 60, .inl (upd (sa 2) s1 (-1)))), (a 39, .inl (cI, 60, .inl (upd (sa 3) s1 0))), (a 40, .inl (cI, 60, .inl (upd (sa 4) s1 (-1)))), (a 41, .inl (cI, 60, .inl (upd (sa 5) s1 (-1)))), (a 42, .inl (cI, 60, .inl (upd (sa 6) s1 0))), (a 43, .inl (cI, 60, .inl (upd (sa 7) s1 (-1)))), (a 35, .inl (cI, 60, .inl (upd (sa 8) s1 (-1)))), (a 60, .inl (cI, 60, .inl (upd (qa 0) q1 0))), (a 64, .inl (cI, 60, .inl (upd (qa 1) q1 0))), (a 68, .inl (cI, 60, .inl (upd (qa 2) q1 (-1)))), (a 65, .inl (cI, 60, .inl (upd (qa 3) q1 (-1))))]) [14, 15, 4, 5, 6, 7, 8, 9, 10, 11, 12, 13, 0, 1, 2, 3] rfl
                  have hD9 := hD.sub (ws' := [(h0, .inr (13, moF a (upd (upd (upd (upd (upd (upd (upd (upd f 59 (nI (q1 + 1))) 18 (nI x1)) 21 0) 19 1) 20 (pf x1)) 34 (nI (s1 + 1))) 72 0) 71 (f 71)) w)), (a 14, .inl (cI, 2001, .inl sf)), (a 15, .inl (cI, 2001, .inl pf)), (a 36, .inl (cI, 60, .inl (upd (sa 0) s1 0))), (a 37, .inl (cI, 60, .inl (upd (sa 1) s1 0))), (a 38, .inl (cI, 60, .inl (upd (sa 2) s1 (-1)))), (a 39, .inl (cI, 60, .inl (upd (sa 3) s1 0))), (a 40, .inl (cI, 60, .inl (upd (sa 4) s1 (-1)))), (a 41, .inl (cI, 60, .inl (upd (sa 5) s1 (-1)))), (a 42, .inl (cI, 60, .inl (upd (sa 6) s1 0))), (a 43, .inl (cI, 60, .inl (upd (sa 7) s1 (-1)))), (a 35, .inl (cI, 60, .inl (upd (sa 8) s1 (-1)))), (a 60, .inl (cI, 60, .inl (upd (qa 0) q1 0))), (a 64, .inl (cI, 60, .inl (upd (qa 1) q1 0))), (a 68, .inl (cI, 60, .inl (upd (qa 2) q1 (-1)))), (a 65, .inl (cI, 60, .inl (upd (qa 3) q1 (-1))))]) [14, 15, 4, 5, 6, 7, 8, 9, 10, 11, 12, 13, 0, 1, 2, 3] (by decide) rfl
                  have hK9 := hK.sub (tys' := [(cB, .byte), (cI, .int), (cJ, .long), (cZ, .boolean)]) [0, 1, 2, 3] rfl
                  exact W.iret (v := (nI q1)) hx hb hr (fun t_ ht hW => ⟨⟨(nI q1), (), rfl, rfl, by rw [ht]; exact hP9, va_K.moved hW.alike hK9, hD9⟩, hS.F ht⟩) hS.2.2 dX12_queryOf_457
                · skip
                  exact absurd c_17 (by decide)
              · skip
                exact absurd c_15 (by decide)
            · skip
              exact absurd c_14 (by decide)
          · skip
            exact absurd c_12 (by decide)
        · skip
          exact absurd c_10 (by decide)
      · skip
        exact absurd c_7 (by decide)

