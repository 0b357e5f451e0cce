theorem mx_nI {a b : Nat} (ha : a < 2 ^ 31) (hb : b < 2 ^ 31) : (if nI a < nI b then nI b else nI a) = nI (max a b) := by
  by_cases h : a < b
  · rw [if_pos ((nI_ltI ha hb).mpr h), Nat.max_eq_right (Nat.le_of_lt h)]
  · rw [if_neg (fun h8 => h ((nI_ltI ha hb).mp h8)), Nat.max_eq_left (Nat.le_of_not_lt h)]
theorem dX8_put_0 : decode cX8_put 0 = .ok (.aload_n 0, 1) := by decide +kernel
theorem dX8_put_1 : decode cX8_put 1 = .ok (.iload_n 1, 1) := by decide +kernel
theorem dX8_put_2 : decode cX8_put 2 = .ok (.iconst 1, 1) := by decide +kernel
theorem dX8_put_3 : decode cX8_put 3 = .ok (.iadd, 1) := by decide +kernel
theorem dX8_put_4 : decode cX8_put 4 = .ok (.invokevirtual 39, 3) := by decide +kernel
theorem dX8_put_7 : decode cX8_put 7 = .ok (.aload_n 0, 1) := by decide +kernel
theorem dX8_put_8 : decode cX8_put 8 = .ok (.iload_n 1, 1) := by decide +kernel
theorem dX8_put_9 : decode cX8_put 9 = .ok (.invokevirtual 35, 3) := by decide +kernel
theorem dX8_put_12 : decode cX8_put 12 = .ok (.ifCond .eq 28, 3) := by decide +kernel
theorem dX8_put_15 : decode cX8_put 15 = .ok (.aload_n 0, 1) := by decide +kernel
theorem dX8_put_16 : decode cX8_put 16 = .ok (.getfield 11, 3) := by decide +kernel
theorem dX8_put_19 : decode cX8_put 19 = .ok (.iload_n 1, 1) := by decide +kernel
theorem dX8_put_20 : decode cX8_put 20 = .ok (.iload 4, 2) := by decide +kernel
theorem dX8_put_22 : decode cX8_put 22 = .ok (.ifCond .eq 7, 3) := by decide +kernel
theorem dX8_put_25 : decode cX8_put 25 = .ok (.lconst 0, 1) := by decide +kernel
theorem dX8_put_26 : decode cX8_put 26 = .ok (.goto 4, 3) := by decide +kernel
theorem dX8_put_29 : decode cX8_put 29 = .ok (.lload_n 2, 1) := by decide +kernel
theorem dX8_put_30 : decode cX8_put 30 = .ok (.lastore, 1) := by decide +kernel
theorem dX8_put_31 : decode cX8_put 31 = .ok (.aload_n 0, 1) := by decide +kernel
theorem dX8_put_32 : decode cX8_put 32 = .ok (.getfield 15, 3) := by decide +kernel
theorem dX8_put_35 : decode cX8_put 35 = .ok (.iload_n 1, 1) := by decide +kernel
theorem dX8_put_36 : decode cX8_put 36 = .ok (.iload 4, 2) := by decide +kernel
theorem dX8_put_38 : decode cX8_put 38 = .ok (.i2b, 1) := by decide +kernel
theorem dX8_put_39 : decode cX8_put 39 = .ok (.bastore, 1) := by decide +kernel
theorem dX8_put_40 : decode cX8_put 40 = .ok (.return_, 1) := by decide +kernel
abbrev cs_t_X8_put_n (cB cI cJ cZ : ClassId) (h0 hV hB n : Nat) (vf : Nat → Int64) (bf : Nat → Int32) (wo wp : Value) (c1 : Nat) (v : Int64) (b : Int32) : va_W := [(h0, .inr (9, [.ref hV, .ref hB, wo, wp])), (hV, .inl (cJ, n, .inr (.inl vf))), (hB, .inl (cB, n, .inl bf))]
abbrev pc_t_X8_put_n (dC : Nat → ClassId) (dI : Nat → Nat → Nat) (sz : Nat) (cB cI cJ cZ : ClassId) (h0 hV hB n : Nat) (vf : Nat → Int64) (bf : Nat → Int32) (wo wp : Value) (c1 : Nat) (v : Int64) (b : Int32) : Array Value → State → Prop := va_Pc [.ref h0, .int (nI c1), .long v, .int b] (fun U => U.heap.size = sz ∧ va_P (dC, dI) vwCl [(h0, .inr (9, [.ref hV, .ref hB, wo, wp])), (hV, .inl (cJ, n, .inr (.inl vf))), (hB, .inl (cB, n, .inl bf))] U.heap ∧ va_K (dC, dI) vwCl [(cB, .byte), (cI, .int), (cJ, .long), (cZ, .boolean)] U ∧ va_D (fun _ => True) [(h0, .inr (9, [.ref hV, .ref hB, wo, wp])), (hV, .inl (cJ, n, .inr (.inl vf))), (hB, .inl (cB, n, .inl bf))])
abbrev qc_t_X8_put_n (dC : Nat → ClassId) (dI : Nat → Nat → Nat) (cB cI cJ cZ : ClassId) (h0 hV hB n : Nat) (vf : Nat → Int64) (bf : Nat → Int32) (wo wp : Value) (c1 : Nat) (v : Int64) (b : Int32) (A : Nat → Prop) : Array Value → State → Outcome → State → Prop := va_Qv (fun (u : Unit) => match u with | _ => True) (fun (u : Unit) t_ => match u with | _ => va_P (dC, dI) vwCl [(h0, .inr (9, [.ref hV, .ref hB, wo, wp])), (hV, .inl (cJ, n, .inr (.inl (vp_updL vf c1 (pv v b))))), (hB, .inl (cB, n, .inl (upd bf c1 (pb b))))] t_.heap ∧ va_K (dC, dI) vwCl [(cB, .byte), (cI, .int), (cJ, .long), (cZ, .boolean)] t_ ∧ va_D A [(h0, .inr (9, [.ref hV, .ref hB, wo, wp])), (hV, .inl (cJ, n, .inr (.inl (vp_updL vf c1 (pv v b))))), (hB, .inl (cB, n, .inl (upd bf c1 (pb b))))]) A
set_option maxHeartbeats 4000000 in
set_option maxRecDepth 100000 in
theorem t_X8_put_n (l : Launch) (dC : Nat → ClassId) (dI : Nat → Nat → Nat) (sz : Nat) (cB cI cJ cZ : ClassId) (h0 hV hB n : Nat) (vf : Nat → Int64) (bf : Nat → Int32) (wo wp : Value) (c1 : Nat) (v : Int64) (b : Int32) (hn : n < 500000) (hc : c1 < n) : Met l yX8_put (wsOf yX8_put cX8_put 5 none) ({ frames := 1, cells := 0, slots := 0, locals := 60 }) (pc_t_X8_put_n dC dI sz cB cI cJ cZ h0 hV hB n vf bf wo wp c1 v b) (qc_t_X8_put_n dC dI cB cI cJ cZ h0 hV hB n vf bf wo wp c1 v b (va_A (cs_t_X8_put_n cB cI cJ cZ h0 hV hB n vf bf wo wp c1 v b) sz)) 0 0 (va_A (cs_t_X8_put_n cB cI cJ cZ h0 hV hB n vf bf wo wp c1 v b) sz) := by
  refine Met.ofW (cc := cX8_put) (maxL := 5) (ret := none) (by decide) rfl ?_
  intro p e s m args below meth c s₁ B hml hv
  obtain ⟨rfl, hsz, hP, hK, hD0⟩ := hv
  have hx := B.exec
  have hb := B.bytes
  have hr := B.returns
  have hts := atoms_spec (ws := (wsOf yX8_put cX8_put 5 none)) B.pre
  have hown : s.vm.findClass RX8 = some m.cls := findClass_of_methodNamed B.named
  have hlocks := B.notSynchronized
  subst hsz
  have hD := hD0.self (sz := s.heap.size)
  generalize hAe : va_A (cs_t_X8_put_n cB cI cJ cZ h0 hV hB n vf bf wo wp c1 v b) s.heap.size = A at hD ⊢
  have hA : ∀ q : Nat, s.heap.size ≤ q → A q := fun q h => by rw [← hAe]; exact Or.inr h
  have hS : va_S A s.heap s.heap [] := va_S.rf
  have hP : va_P (dC, dI) vwCl [(h0, .inr (9, [.ref hV, .ref hB, wo, wp])), (hV, .inl (cJ, n, .inr (.inl vf))), (hB, .inl (cB, n, .inl bf))] s.heap := hP
  have hl := lv_entry ([.ref h0, .int (nI c1), .long v, .int b]) (n := 5) (Nat.le_of_ble_eq_true rfl)
  rw [lg_entry_eq]
  generalize (lg_sl ([.ref h0, .int (nI c1), .long v, .int b]) ++ List.replicate (5 - (lg_sl ([.ref h0, .int (nI c1), .long v, .int b])).length) Slot.unset).toArray = ls at hl ⊢
  have hl : lv_has ls 5 [(0, .ref h0), (1, .int (nI c1)), (2, .long v), (4, .int b)] := hl
  refine lv_aload_n hx hb dX8_put_0 rfl (lv_at hl 0 rfl) ?_
  refine lv_iload_n hx hb dX8_put_1 rfl (lv_at hl 1 rfl) ?_
  refine lv_iconst (v := 1) hx hb dX8_put_2 (by decide) ?_
  refine lv_iadd hx hb dX8_put_3 ?_
  refine lv_topi (fun x_1 ex_1 => ?_)
  have ex_1 : x_1 = nI (c1 + 1) := ex_1.trans (nI_add c1 1)
  subst ex_1
  have hPc := hP.sub (ws' := [(h0, .inr (9, [.ref hV, .ref hB, wo, wp])), (hV, .inl (cJ, n, .inr (.inl vf))), (hB, .inl (cB, n, .inl bf))]) [0, 1, 2] rfl
  have hDc := hD.sub (ws' := [(h0, .inr (9, [.ref hV, .ref hB, wo, wp])), (hV, .inl (cJ, n, .inr (.inl vf))), (hB, .inl (cB, n, .inl bf))]) [0, 1, 2] (by decide) rfl
  have hKc := hK.sub (tys' := [(cB, .byte), (cI, .int), (cJ, .long), (cZ, .boolean)]) [0, 1, 2, 3] rfl
  have hFc := va_free (wc := [(h0, .inr (9, [.ref hV, .ref hB, wo, wp])), (hV, .inl (cJ, n, .inr (.inl vf))), (hB, .inl (cB, n, .inl bf))]) hD hS hA [0, 1, 2] rfl
  refine va_callv (va_runV (As := [.int (nI (c1 + 1))]) (rest := []) ⟨hx, hb, hml, hown, hts⟩ (t_X8_reserve_n l dC dI s.heap.size cB cI cJ cZ h0 hV hB n vf bf wo wp (c1 + 1) (by omega) (by omega)) (cwV 1 hts (gd_all (in_V kw_1338 kw_1339 kw_1340 kw_188 kc_X8_reserve)) rfl rfl rfl (by decide +kernel) ⟨Nat.le_of_ble_eq_true rfl, Nat.le_of_ble_eq_true rfl⟩) ⟨fun a U g mk q => by obtain ⟨q0, q1, qP, qK, qD⟩ := q; exact ⟨q0, q1, qP, va_K.moved (u := U) (U := U.calling g mk a) (Vm.Alike.refl U.vm) qK, qD⟩, va_recv hKc hPc (ci := 9) (q0 := 0) rfl rfl, fun U hU hW => ⟨rfl, by rw [hU], by rw [hU]; exact hPc, va_K.moved hW.alike hKc, hDc.weaken (fun _ _ _ _ => trivial)⟩⟩ rfl rfl hl.1 rfl (lv_room (Nat.le_of_ble_eq_true rfl)) dX8_put_4 ⟨Nat.le_of_ble_eq_true rfl, Nat.le_of_ble_eq_true rfl⟩) hS (fun q _ h => hFc q h) hFc (fun u t_ H1 locs ht hvm hw hB hz1 hk1 hS => ?_)
  obtain ⟨hP1, hK1, hD1⟩ := hB
  rw [ht] at hP1
  have hK1 := va_K.moved hvm.symm hK1
  obtain ⟨hP, hD⟩ := va_join (wr := []) (w1 := [(h0, .inr (9, [.ref hV, .ref hB, wo, wp])), (hV, .inl (cJ, n, .inr (.inl vf))), (hB, .inl (cB, n, .inl bf))]) hP hD [0, 1, 2] [] rfl rfl (by decide) (by decide) hk1 hFc hP1 hD1
  have hK := (hK.sub (tys' := []) [] rfl).app hK1
  generalize H1 = H at hP hS ⊢
  have hP : va_P (dC, dI) vwCl [(h0, .inr (9, [.ref hV, .ref hB, wo, wp])), (hV, .inl (cJ, n, .inr (.inl vf))), (hB, .inl (cB, n, .inl bf))] H := hP
  have hD : va_D A [(h0, .inr (9, [.ref hV, .ref hB, wo, wp])), (hV, .inl (cJ, n, .inr (.inl vf))), (hB, .inl (cB, n, .inl bf))] := hD
  have hK : va_K (dC, dI) vwCl [(cB, .byte), (cI, .int), (cJ, .long), (cZ, .boolean)] s := hK
  refine lv_aload_n hx hb dX8_put_7 rfl (lv_at hl 0 rfl) ?_
  refine lv_iload_n hx hb dX8_put_8 rfl (lv_at hl 1 rfl) ?_
  have hPc := hP.sub (ws' := [(h0, .inr (9, [.ref hV, .ref hB, wo, wp])), (hV, .inl (cJ, n, .inr (.inl vf))), (hB, .inl (cB, n, .inl bf))]) [0, 1, 2] rfl
  have hDc := hD.sub (ws' := [(h0, .inr (9, [.ref hV, .ref hB, wo, wp])), (hV, .inl (cJ, n, .inr (.inl vf))), (hB, .inl (cB, n, .inl bf))]) [0, 1, 2] (by decide) rfl
  have hKc := hK.sub (tys' := [(cB, .byte), (cI, .int), (cJ, .long), (cZ, .boolean)]) [0, 1, 2, 3] rfl
  have hFc := va_free (wc := [(h0, .inr (9, [.ref hV, .ref hB, wo, wp])), (hV, .inl (cJ, n, .inr (.inl vf))), (hB, .inl (cB, n, .inl bf))]) hD hS hA [0, 1, 2] rfl
  refine va_calli (va_runV (As := [.int (nI c1)]) (rest := []) ⟨hx, hb, hml, hown, hts⟩ (t_X8_holds l dC dI H.size cB cI cJ cZ h0 hV hB n vf bf wo wp c1 (by omega) (by omega)) (cwV 1 hts (gd_all (in_V kw_1360 kw_1362 kw_67 kw_188 kc_X8_holds)) rfl rfl rfl (by decide +kernel) ⟨Nat.le_of_ble_eq_true rfl, Nat.le_of_ble_eq_true rfl⟩) ⟨fun a U g mk q => by obtain ⟨q0, q1, qP, qK, qD⟩ := q; exact ⟨q0, q1, qP, va_K.moved (u := U) (U := U.calling g mk a) (Vm.Alike.refl U.vm) qK, qD⟩, va_recv hKc hPc (ci := 9) (q0 := 0) rfl rfl, fun U hU hW => ⟨rfl, by rw [hU], by rw [hU]; exact hPc, va_K.moved hW.alike hKc, hDc.weaken (fun _ _ _ _ => trivial)⟩⟩ rfl rfl hl.1 rfl (lv_room (Nat.le_of_ble_eq_true rfl)) dX8_put_9 ⟨Nat.le_of_ble_eq_true rfl, Nat.le_of_ble_eq_true rfl⟩) hS (fun q _ h => hFc q h) hFc (fun r_3 u t_ H1 locs ht hvm hw hB hz1 hk1 hS => ?_)
  obtain ⟨hP1, hK1, hD1⟩ := hB
  rw [ht] at hP1
  have hK1 := va_K.moved hvm.symm hK1
  obtain ⟨hP, hD⟩ := va_join (wr := []) (w1 := [(h0, .inr (9, [.ref hV, .ref hB, wo, wp])), (hV, .inl (cJ, n, .inr (.inl vf))), (hB, .inl (cB, n, .inl bf))]) hP hD [0, 1, 2] [] rfl rfl (by decide) (by decide) hk1 hFc hP1 hD1
  have hK := (hK.sub (tys' := []) [] rfl).app hK1
  generalize H1 = H at hP hS ⊢
  have hP : va_P (dC, dI) vwCl [(h0, .inr (9, [.ref hV, .ref hB, wo, wp])), (hV, .inl (cJ, n, .inr (.inl vf))), (hB, .inl (cB, n, .inl bf))] H := hP
  have hD : va_D A [(h0, .inr (9, [.ref hV, .ref hB, wo, wp])), (hV, .inl (cJ, n, .inr (.inl vf))), (hB, .inl (cB, n, .inl bf))] := hD
  have hK : va_K (dC, dI) vwCl [(cB, .byte), (cI, .int), (cJ, .long), (cZ, .boolean)] s := hK
  have er_3 : r_3 = 1 := hw
  rw [er_3]
  refine lv_if_eq (tgt := 40) hx hb dX8_put_12 (by decide) (fun c_4 => ?_) (fun c_4 => ?_)
  · skip
    exact absurd c_4 (by decide)
  · skip
    refine lv_aload_n hx hb dX8_put_15 rfl (lv_at hl 0 rfl) ?_
    refine va_get (D := (dC, dI)) (ci := 9) (v := .ref hV) (C := RX8) (T := TX8) (N := 4) hx hb hts (fun w h => List.mem_cons_of_mem _ (uG_X8 w h)) hown hK hP 0 rfl rfl 0 (by decide) (hts _ (List.mem_cons_of_mem _ kw_349)) (fun _ h9 => h9) rfl dX8_put_16 ?_
    refine lv_iload_n hx hb dX8_put_19 rfl (lv_at hl 1 rfl) ?_
    have mg_5 : ∀ (H : Heap) (locs : List Loc), va_P (dC, dI) vwCl [(h0, .inr (9, [.ref hV, .ref hB, wo, wp])), (hV, .inl (cJ, n, .inr (.inl vf))), (hB, .inl (cB, n, .inl bf))] H → va_D A [(h0, .inr (9, [.ref hV, .ref hB, wo, wp])), (hV, .inl (cJ, n, .inr (.inl vf))), (hB, .inl (cB, n, .inl bf))] → va_S A s.heap H locs → W p l e (headSpec (wsOf yX8_put cX8_put 5 none) ({ frames := 1, cells := 0, slots := 0, locals := 60 })).room s m ([.ref h0, .int (nI c1), .long v, .int b] : List Value).toArray below meth c H locs 0 0 (MQ below (qc_t_X8_put_n dC dI cB cI cJ cZ h0 hV hB n vf bf wo wp c1 v b A) ([.ref h0, .int (nI c1), .long v, .int b] : List Value).toArray s 0 0 A) (F0 m 30 ls [.long (pv v b), .int (nI c1), .ref hV]) := by
      intro H locs hP hD hS
      refine va_last hx hb hK hP hD hS 1 2 rfl rfl (i := (nI c1)) (x := (pv v b)) (vp_in_nI (n := c1) (N := n) (by omega) (by omega)) dX8_put_30 (fun H locs hP hD hS => ?_)
      rw [show (nI c1).toNatClampNeg = c1 from nI_clamp (n := c1) (by omega)] at hP hD
      have hP : va_P (dC, dI) vwCl [(h0, .inr (9, [.ref hV, .ref hB, wo, wp])), (hV, .inl (cJ, n, .inr (.inl (vp_updL vf c1 (pv v b))))), (hB, .inl (cB, n, .inl bf))] H := hP
      have hD : va_D A [(h0, .inr (9, [.ref hV, .ref hB, wo, wp])), (hV, .inl (cJ, n, .inr (.inl (vp_updL vf c1 (pv v b))))), (hB, .inl (cB, n, .inl bf))] := hD
      refine lv_aload_n hx hb dX8_put_31 rfl (lv_at hl 0 rfl) ?_
      refine va_get (D := (dC, dI)) (ci := 9) (v := .ref hB) (C := RX8) (T := TX8) (N := 4) hx hb hts (fun w h => List.mem_cons_of_mem _ (uG_X8 w h)) hown hK hP 0 rfl rfl 1 (by decide) (hts _ (List.mem_cons_of_mem _ kw_350)) (fun _ h9 => h9) rfl dX8_put_32 ?_
      refine lv_iload_n hx hb dX8_put_35 rfl (lv_at hl 1 rfl) ?_
      refine lv_iload hx hb dX8_put_36 (lv_at hl 3 rfl) ?_
      refine lv_i2b hx hb dX8_put_38 rfl ?_
      refine va_bast hx hb hK hP hD hS 2 0 rfl rfl (i := (nI c1)) (x := (b.toInt8.toInt32)) (vp_in_nI (n := c1) (N := n) (by omega) (by omega)) dX8_put_39 (fun H locs hP hD hS => ?_)
      rw [show (nI c1).toNatClampNeg = c1 from nI_clamp (n := c1) (by omega)] at hP hD
      have hP : va_P (dC, dI) vwCl [(h0, .inr (9, [.ref hV, .ref hB, wo, wp])), (hV, .inl (cJ, n, .inr (.inl (vp_updL vf c1 (pv v b))))), (hB, .inl (cB, n, .inl (upd bf c1 (vp_nar .byte (b.toInt8.toInt32)))))] H := hP
      have hD : va_D A [(h0, .inr (9, [.ref hV, .ref hB, wo, wp])), (hV, .inl (cJ, n, .inr (.inl (vp_updL vf c1 (pv v b))))), (hB, .inl (cB, n, .inl (upd bf c1 (vp_nar .byte (b.toInt8.toInt32)))))] := hD
      have hP9 := hP.sub (ws' := [(h0, .inr (9, [.ref hV, .ref hB, wo, wp])), (hV, .inl (cJ, n, .inr (.inl (vp_updL vf c1 (pv v b))))), (hB, .inl (cB, n, .inl (upd bf c1 (vp_nar .byte (b.toInt8.toInt32)))))]) [0, 1, 2] rfl
      have hD9 := hD.sub (ws' := [(h0, .inr (9, [.ref hV, .ref hB, wo, wp])), (hV, .inl (cJ, n, .inr (.inl (vp_updL vf c1 (pv v b))))), (hB, .inl (cB, n, .inl (upd bf c1 (vp_nar .byte (b.toInt8.toInt32)))))]) [0, 1, 2] (by decide) rfl
      have hK9 := hK.sub (tys' := [(cB, .byte), (cI, .int), (cJ, .long), (cZ, .boolean)]) [0, 1, 2, 3] rfl
      exact W.vret hx hb hr (fun t_ ht hW => ⟨⟨(), rfl, trivial, by rw [ht]; exact hP9, va_K.moved hW.alike hK9, hD9⟩, hS.F ht⟩) hS.2.2 dX8_put_40
    refine lv_iload hx hb dX8_put_20 (lv_at hl 3 rfl) ?_
    refine lv_if_eq (tgt := 29) hx hb dX8_put_22 (by decide) (fun c_6 => ?_) (fun c_6 => ?_)
    · skip
      refine lv_lload_n hx hb dX8_put_29 rfl (lv_at hl 2 rfl) ?_
      exact W.eq (by unfold pv; rw [if_pos c_6]) (mg_5 _ _ hP hD hS)
    · skip
      refine lv_lconst (v := 0) hx hb dX8_put_25 (by decide) ?_
      refine lv_goto (tgt := 30) hx hb dX8_put_26 (by decide) ?_
      exact W.eq (by unfold pv; rw [if_neg c_6]) (mg_5 _ _ hP hD hS)
abbrev cs_t_X8_put_g (cB cI cJ cZ : ClassId) (h0 hV hB n : Nat) (vf : Nat → Int64) (bf : Nat → Int32) (wo wp : Value) (c1 : Nat) (v : Int64) (b : Int32) : va_W := [(h0, .inr (9, [.ref hV, .ref hB, wo, wp])), (hV, .inl (cJ, n, .inr (.inl vf))), (hB, .inl (cB, n, .inl bf))]
abbrev pc_t_X8_put_g (dC : Nat → ClassId) (dI : Nat → Nat → Nat) (sz : Nat) (cB cI cJ cZ : ClassId) (h0 hV hB n : Nat) (vf : Nat → Int64) (bf : Nat → Int32) (wo wp : Value) (c1 : Nat) (v : Int64) (b : Int32) : Array Value → State → Prop := va_Pc [.ref h0, .int (nI c1), .long v, .int b] (fun U => U.heap.size = sz ∧ va_P (dC, dI) vwCl [(h0, .inr (9, [.ref hV, .ref hB, wo, wp])), (hV, .inl (cJ, n, .inr (.inl vf))), (hB, .inl (cB, n, .inl bf))] U.heap ∧ va_K (dC, dI) vwCl [(cB, .byte), (cI, .int), (cJ, .long), (cZ, .boolean)] U ∧ va_D (fun _ => True) [(h0, .inr (9, [.ref hV, .ref hB, wo, wp])), (hV, .inl (cJ, n, .inr (.inl vf))), (hB, .inl (cB, n, .inl bf))])
abbrev qc_t_X8_put_g (dC : Nat → ClassId) (dI : Nat → Nat → Nat) (cB cI cJ cZ : ClassId) (h0 hV hB n : Nat) (vf : Nat → Int64) (bf : Nat → Int32) (wo wp : Value) (c1 : Nat) (v : Int64) (b : Int32) (A : Nat → Prop) : Array Value → State → Outcome → State → Prop := va_Qv (fun (u : Unit) => match u with | _ => True) (fun (u : Unit) t_ => match u with | _ => ∃ (a1 a2 : Nat), va_P (dC, dI) vwCl [(h0, .inr (9, [.ref a1, .ref a2, wo, wp])), (a1, .inl (cJ, 2 * (c1 + 1), .inr (.inl (vp_updL vf c1 (pv v b))))), (a2, .inl (cB, 2 * (c1 + 1), .inl (upd bf c1 (pb b))))] t_.heap ∧ va_K (dC, dI) vwCl [(cB, .byte), (cI, .int), (cJ, .long), (cZ, .boolean)] t_ ∧ va_D A [(h0, .inr (9, [.ref a1, .ref a2, wo, wp])), (a1, .inl (cJ, 2 * (c1 + 1), .inr (.inl (vp_updL vf c1 (pv v b))))), (a2, .inl (cB, 2 * (c1 + 1), .inl (upd bf c1 (pb b))))]) A
set_option maxHeartbeats 4000000 in
set_option maxRecDepth 100000 in
theorem t_X8_put_g (l : Launch) (dC : Nat → ClassId) (dI : Nat → Nat → Nat) (sz : Nat) (cB cI cJ cZ : ClassId) (h0 hV hB n : Nat) (vf : Nat → Int64) (bf : Nat → Int32) (wo wp : Value) (c1 : Nat) (v : Int64) (b : Int32) (hn : n < 500000) (hzv : ∀ j, n ≤ j → vf j = 0) (hzb : ∀ j, n ≤ j → bf j = 0) (hy : sb_Fit bf) (hc : n ≤ c1) (hc1 : c1 + 1 < 200000) : Met l yX8_put (wsOf yX8_put cX8_put 5 none) ({ frames := 3, cells := 2, slots := 4 * (c1 + 1), locals := 180 }) (pc_t_X8_put_g dC dI sz cB cI cJ cZ h0 hV hB n vf bf wo wp c1 v b) (qc_t_X8_put_g dC dI cB cI cJ cZ h0 hV hB n vf bf wo wp c1 v b (va_A (cs_t_X8_put_g cB cI cJ cZ h0 hV hB n vf bf wo wp c1 v b) sz)) 2 (4 * (c1 + 1)) (va_A (cs_t_X8_put_g cB cI cJ cZ h0 hV hB n vf bf wo wp c1 v b) sz) := by
  refine Met.ofW (cc := cX8_put) (maxL := 5) (ret := none) (by decide) rfl ?_
  intro p e s m args below meth c s₁ B hml hv
  obtain ⟨rfl, hsz, hP, hK, hD0⟩ := hv
  have hx := B.exec
  have hb := B.bytes
  have hr := B.returns
  have hts := atoms_spec (ws := (wsOf yX8_put cX8_put 5 none)) B.pre
  have hown : s.vm.findClass RX8 = some m.cls := findClass_of_methodNamed B.named
  have hlocks := B.notSynchronized
  subst hsz
  have hD := hD0.self (sz := s.heap.size)
  generalize hAe : va_A (cs_t_X8_put_g cB cI cJ cZ h0 hV hB n vf bf wo wp c1 v b) s.heap.size = A at hD ⊢
  have hA : ∀ q : Nat, s.heap.size ≤ q → A q := fun q h => by rw [← hAe]; exact Or.inr h
  have hS : va_S A s.heap s.heap [] := va_S.rf
  have hP : va_P (dC, dI) vwCl [(h0, .inr (9, [.ref hV, .ref hB, wo, wp])), (hV, .inl (cJ, n, .inr (.inl vf))), (hB, .inl (cB, n, .inl bf))] s.heap := hP
  have hl := lv_entry ([.ref h0, .int (nI c1), .long v, .int b]) (n := 5) (Nat.le_of_ble_eq_true rfl)
  rw [lg_entry_eq]
  generalize (lg_sl ([.ref h0, .int (nI c1), .long v, .int b]) ++ List.replicate (5 - (lg_sl ([.ref h0, .int (nI c1), .long v, .int b])).length) Slot.unset).toArray = ls at hl ⊢
  have hl : lv_has ls 5 [(0, .ref h0), (1, .int (nI c1)), (2, .long v), (4, .int b)] := hl
  refine lv_aload_n hx hb dX8_put_0 rfl (lv_at hl 0 rfl) ?_
  refine lv_iload_n hx hb dX8_put_1 rfl (lv_at hl 1 rfl) ?_
  refine lv_iconst (v := 1) hx hb dX8_put_2 (by decide) ?_
  refine lv_iadd hx hb dX8_put_3 ?_
  refine lv_topi (fun x_1 ex_1 => ?_)
  have ex_1 : x_1 = nI (c1 + 1) := ex_1.trans (nI_add c1 1)
  subst ex_1
  have hPc := hP.sub (ws' := [(h0, .inr (9, [.ref hV, .ref hB, wo, wp])), (hV, .inl (cJ, n, .inr (.inl vf))), (hB, .inl (cB, n, .inl bf))]) [0, 1, 2] rfl
  have hDc := hD.sub (ws' := [(h0, .inr (9, [.ref hV, .ref hB, wo, wp])), (hV, .inl (cJ, n, .inr (.inl vf))), (hB, .inl (cB, n, .inl bf))]) [0, 1, 2] (by decide) rfl
  have hKc := hK.sub (tys' := [(cB, .byte), (cI, .int), (cJ, .long), (cZ, .boolean)]) [0, 1, 2, 3] rfl
  have hFc := va_free (wc := [(h0, .inr (9, [.ref hV, .ref hB, wo, wp])), (hV, .inl (cJ, n, .inr (.inl vf))), (hB, .inl (cB, n, .inl bf))]) hD hS hA [0, 1, 2] rfl
  refine va_callv (va_runV (As := [.int (nI (c1 + 1))]) (rest := []) ⟨hx, hb, hml, hown, hts⟩ (t_X8_reserve_g l dC dI s.heap.size cB cI cJ cZ h0 hV hB n vf bf wo wp (c1 + 1) (by omega) hzv hzb hy (by omega) (by omega)) (cwV 1 hts (gd_all (in_V kw_1338 kw_1339 kw_1340 kw_188 kc_X8_reserve)) rfl rfl rfl (by decide +kernel) ⟨Nat.le_of_ble_eq_true rfl, Nat.le_of_ble_eq_true rfl⟩) ⟨fun a U g mk q => by obtain ⟨q0, q1, qP, qK, qD⟩ := q; exact ⟨q0, q1, qP, va_K.moved (u := U) (U := U.calling g mk a) (Vm.Alike.refl U.vm) qK, qD⟩, va_recv hKc hPc (ci := 9) (q0 := 0) rfl rfl, fun U hU hW => ⟨rfl, by rw [hU], by rw [hU]; exact hPc, va_K.moved hW.alike hKc, hDc.weaken (fun _ _ _ _ => trivial)⟩⟩ rfl rfl hl.1 rfl (lv_room (Nat.le_of_ble_eq_true rfl)) dX8_put_4 ⟨Nat.le_of_ble_eq_true rfl, by show 0 + 4 * (c1 + 1) ≤ 4 * (c1 + 1); omega⟩) hS (fun q _ h => hFc q h) hFc (fun u t_ H1 locs ht hvm hw hB hz1 hk1 hS => ?_)
  obtain ⟨a1, a2, hP1, hK1, hD1⟩ := hB
  rw [ht] at hP1
  have hK1 := va_K.moved hvm.symm hK1
  obtain ⟨hP, hD⟩ := va_join (wr := []) (w1 := [(h0, .inr (9, [.ref a1, .ref a2, wo, wp])), (a1, .inl (cJ, 2 * (c1 + 1), .inr (.inl vf))), (a2, .inl (cB, 2 * (c1 + 1), .inl bf))]) hP hD [0, 1, 2] [] rfl rfl (by decide) (by decide) hk1 hFc hP1 hD1
  have hK := (hK.sub (tys' := []) [] rfl).app hK1
  generalize H1 = H at hP hS ⊢
  have hP : va_P (dC, dI) vwCl [(h0, .inr (9, [.ref a1, .ref a2, wo, wp])), (a1, .inl (cJ, 2 * (c1 + 1), .inr (.inl vf))), (a2, .inl (cB, 2 * (c1 + 1), .inl bf))] H := hP
  have hD : va_D A [(h0, .inr (9, [.ref a1, .ref a2, wo, wp])), (a1, .inl (cJ, 2 * (c1 + 1), .inr (.inl vf))), (a2, .inl (cB, 2 * (c1 + 1), .inl bf))] := hD
  have hK : va_K (dC, dI) vwCl [(cB, .byte), (cI, .int), (cJ, .long), (cZ, .boolean)] s := hK
  refine lv_aload_n hx hb dX8_put_7 rfl (lv_at hl 0 rfl) ?_
  refine lv_iload_n hx hb dX8_put_8 rfl (lv_at hl 1 rfl) ?_
  have hPc := hP.sub (ws' := [(h0, .inr (9, [.ref a1, .ref a2, wo, wp])), (a1, .inl (cJ, 2 * (c1 + 1), .inr (.inl vf))), (a2, .inl (cB, 2 * (c1 + 1), .inl bf))]) [0, 1, 2] rfl
  have hDc := hD.sub (ws' := [(h0, .inr (9, [.ref a1, .ref a2, wo, wp])), (a1, .inl (cJ, 2 * (c1 + 1), .inr (.inl vf))), (a2, .inl (cB, 2 * (c1 + 1), .inl bf))]) [0, 1, 2] (by decide) rfl
  have hKc := hK.sub (tys' := [(cB, .byte), (cI, .int), (cJ, .long), (cZ, .boolean)]) [0, 1, 2, 3] rfl
  have hFc := va_free (wc := [(h0, .inr (9, [.ref a1, .ref a2, wo, wp])), (a1, .inl (cJ, 2 * (c1 + 1), .inr (.inl vf))), (a2, .inl (cB, 2 * (c1 + 1), .inl bf))]) hD hS hA [0, 1, 2] rfl
  refine va_calli (va_runV (As := [.int (nI c1)]) (rest := []) ⟨hx, hb, hml, hown, hts⟩ (t_X8_holds l dC dI H.size cB cI cJ cZ h0 a1 a2 (2 * (c1 + 1)) vf bf wo wp c1 (by omega) (by omega)) (cwV 1 hts (gd_all (in_V kw_1360 kw_1362 kw_67 kw_188 kc_X8_holds)) rfl rfl rfl (by decide +kernel) ⟨Nat.le_of_ble_eq_true rfl, Nat.le_of_ble_eq_true rfl⟩) ⟨fun a U g mk q => by obtain ⟨q0, q1, qP, qK, qD⟩ := q; exact ⟨q0, q1, qP, va_K.moved (u := U) (U := U.calling g mk a) (Vm.Alike.refl U.vm) qK, qD⟩, va_recv hKc hPc (ci := 9) (q0 := 0) rfl rfl, fun U hU hW => ⟨rfl, by rw [hU], by rw [hU]; exact hPc, va_K.moved hW.alike hKc, hDc.weaken (fun _ _ _ _ => trivial)⟩⟩ rfl rfl hl.1 rfl (lv_room (Nat.le_of_ble_eq_true rfl)) dX8_put_9 ⟨Nat.le_of_ble_eq_true rfl, by show 0 + (4 * (c1 + 1)) + 0 ≤ 4 * (c1 + 1); omega⟩) hS (fun q _ h => hFc q h) hFc (fun r_3 u t_ H1 locs ht hvm hw hB hz1 hk1 hS => ?_)
  obtain ⟨hP1, hK1, hD1⟩ := hB
  rw [ht] at hP1
  have hK1 := va_K.moved hvm.symm hK1
  obtain ⟨hP, hD⟩ := va_join (wr := []) (w1 := [(h0, .inr (9, [.ref a1, .ref a2, wo, wp])), (a1, .inl (cJ, 2 * (c1 + 1), .inr (.inl vf))), (a2, .inl (cB, 2 * (c1 + 1), .inl bf))]) hP hD [0, 1, 2] [] rfl rfl (by decide) (by decide) hk1 hFc hP1 hD1
  have hK := (hK.sub (tys' := []) [] rfl).app hK1
  generalize H1 = H at hP hS ⊢
  have hP : va_P (dC, dI) vwCl [(h0, .inr (9, [.ref a1, .ref a2, wo, wp])), (a1, .inl (cJ, 2 * (c1 + 1), .inr (.inl vf))), (a2, .inl (cB, 2 * (c1 + 1), .inl bf))] H := hP
  have hD : va_D A [(h0, .inr (9, [.ref a1, .ref a2, wo, wp])), (a1, .inl (cJ, 2 * (c1 + 1), .inr (.inl vf))), (a2, .inl (cB, 2 * (c1 + 1), .inl bf))] := hD
  have hK : va_K (dC, dI) vwCl [(cB, .byte), (cI, .int), (cJ, .long), (cZ, .boolean)] s := hK
  have er_3 : r_3 = 1 := hw
  rw [er_3]
  refine lv_if_eq (tgt := 40) hx hb dX8_put_12 (by decide) (fun c_4 => ?_) (fun c_4 => ?_)
  · skip
    exact absurd c_4 (by decide)
  · skip
    refine lv_aload_n hx hb dX8_put_15 rfl (lv_at hl 0 rfl) ?_
    refine va_get (D := (dC, dI)) (ci := 9) (v := .ref a1) (C := RX8) (T := TX8) (N := 4) hx hb hts (fun w h => List.mem_cons_of_mem _ (uG_X8 w h)) hown hK hP 0 rfl rfl 0 (by decide) (hts _ (List.mem_cons_of_mem _ kw_349)) (fun _ h9 => h9) rfl dX8_put_16 ?_
    refine lv_iload_n hx hb dX8_put_19 rfl (lv_at hl 1 rfl) ?_
    have mg_5 : ∀ (H : Heap) (locs : List Loc), va_P (dC, dI) vwCl [(h0, .inr (9, [.ref a1, .ref a2, wo, wp])), (a1, .inl (cJ, 2 * (c1 + 1), .inr (.inl vf))), (a2, .inl (cB, 2 * (c1 + 1), .inl bf))] H → va_D A [(h0, .inr (9, [.ref a1, .ref a2, wo, wp])), (a1, .inl (cJ, 2 * (c1 + 1), .inr (.inl vf))), (a2, .inl (cB, 2 * (c1 + 1), .inl bf))] → va_S A s.heap H locs → W p l e (headSpec (wsOf yX8_put cX8_put 5 none) ({ frames := 3, cells := 2, slots := 4 * (c1 + 1), locals := 180 })).room s m ([.ref h0, .int (nI c1), .long v, .int b] : List Value).toArray below meth c H locs 2 (0 + (4 * (c1 + 1))) (MQ below (qc_t_X8_put_g dC dI cB cI cJ cZ h0 hV hB n vf bf wo wp c1 v b A) ([.ref h0, .int (nI c1), .long v, .int b] : List Value).toArray s 2 (4 * (c1 + 1)) A) (F0 m 30 ls [.long (pv v b), .int (nI c1), .ref a1]) := by
      intro H locs hP hD hS
      refine va_last hx hb hK hP hD hS 1 2 rfl rfl (i := (nI c1)) (x := (pv v b)) (vp_in_nI (n := c1) (N := 2 * (c1 + 1)) (by omega) (by omega)) dX8_put_30 (fun H locs hP hD hS => ?_)
      rw [show (nI c1).toNatClampNeg = c1 from nI_clamp (n := c1) (by omega)] at hP hD
      have hP : va_P (dC, dI) vwCl [(h0, .inr (9, [.ref a1, .ref a2, wo, wp])), (a1, .inl (cJ, 2 * (c1 + 1), .inr (.inl (vp_updL vf c1 (pv v b))))), (a2, .inl (cB, 2 * (c1 + 1), .inl bf))] H := hP
      have hD : va_D A [(h0, .inr (9, [.ref a1, .ref a2, wo, wp])), (a1, .inl (cJ, 2 * (c1 + 1), .inr (.inl (vp_updL vf c1 (pv v b))))), (a2, .inl (cB, 2 * (c1 + 1), .inl bf))] := hD
      refine lv_aload_n hx hb dX8_put_31 rfl (lv_at hl 0 rfl) ?_
      refine va_get (D := (dC, dI)) (ci := 9) (v := .ref a2) (C := RX8) (T := TX8) (N := 4) hx hb hts (fun w h => List.mem_cons_of_mem _ (uG_X8 w h)) hown hK hP 0 rfl rfl 1 (by decide) (hts _ (List.mem_cons_of_mem _ kw_350)) (fun _ h9 => h9) rfl dX8_put_32 ?_
      refine lv_iload_n hx hb dX8_put_35 rfl (lv_at hl 1 rfl) ?_
      refine lv_iload hx hb dX8_put_36 (lv_at hl 3 rfl) ?_
      refine lv_i2b hx hb dX8_put_38 rfl ?_
      refine va_bast hx hb hK hP hD hS 2 0 rfl rfl (i := (nI c1)) (x := (b.toInt8.toInt32)) (vp_in_nI (n := c1) (N := 2 * (c1 + 1)) (by omega) (by omega)) dX8_put_39 (fun H locs hP hD hS => ?_)
      rw [show (nI c1).toNatClampNeg = c1 from nI_clamp (n := c1) (by omega)] at hP hD
      have hP : va_P (dC, dI) vwCl [(h0, .inr (9, [.ref a1, .ref a2, wo, wp])), (a1, .inl (cJ, 2 * (c1 + 1), .inr (.inl (vp_updL vf c1 (pv v b))))), (a2, .inl (cB, 2 * (c1 + 1), .inl (upd bf c1 (vp_nar .byte (b.toInt8.toInt32)))))] H := hP
      have hD : va_D A [(h0, .inr (9, [.ref a1, .ref a2, wo, wp])), (a1, .inl (cJ, 2 * (c1 + 1), .inr (.inl (vp_updL vf c1 (pv v b))))), (a2, .inl (cB, 2 * (c1 + 1), .inl (upd bf c1 (vp_nar .byte (b.toInt8.toInt32)))))] := hD
      have hP9 := hP.sub (ws' := [(h0, .inr (9, [.ref a1, .ref a2, wo, wp])), (a1, .inl (cJ, 2 * (c1 + 1), .inr (.inl (vp_updL vf c1 (pv v b))))), (a2, .inl (cB, 2 * (c1 + 1), .inl (upd bf c1 (vp_nar .byte (b.toInt8.toInt32)))))]) [0, 1, 2] rfl
      have hD9 := hD.sub (ws' := [(h0, .inr (9, [.ref a1, .ref a2, wo, wp])), (a1, .inl (cJ, 2 * (c1 + 1), .inr (.inl (vp_updL vf c1 (pv v b))))), (a2, .inl (cB, 2 * (c1 + 1), .inl (upd bf c1 (vp_nar .byte (b.toInt8.toInt32)))))]) [0, 1, 2] (by decide) rfl
      have hK9 := hK.sub (tys' := [(cB, .byte), (cI, .int), (cJ, .long), (cZ, .boolean)]) [0, 1, 2, 3] rfl
      refine W.widen (k := 2) (n := 4 * (c1 + 1)) (by omega) (by omega) ?_
      exact W.vret hx hb hr (fun t_ ht hW => ⟨⟨(), rfl, trivial, a1, a2, by rw [ht]; exact hP9, va_K.moved hW.alike hK9, hD9⟩, hS.F ht⟩) hS.2.2 dX8_put_40
    refine lv_iload hx hb dX8_put_20 (lv_at hl 3 rfl) ?_
    refine lv_if_eq (tgt := 29) hx hb dX8_put_22 (by decide) (fun c_6 => ?_) (fun c_6 => ?_)
    · skip
      refine lv_lload_n hx hb dX8_put_29 rfl (lv_at hl 2 rfl) ?_
      exact W.eq (by unfold pv; rw [if_pos c_6]) (mg_5 _ _ hP hD hS)
    · skip
      refine lv_lconst (v := 0) hx hb dX8_put_25 (by decide) ?_
      refine lv_goto (tgt := 30) hx hb dX8_put_26 (by decide) ?_
      exact W.eq (by unfold pv; rw [if_neg c_6]) (mg_5 _ _ hP hD hS)
theorem dX8_copy_0 : decode cX8_copy 0 = .ok (.aload_n 0, 1) := by decide +kernel
theorem dX8_copy_1 : decode cX8_copy 1 = .ok (.iload_n 1, 1) := by decide +kernel
theorem dX8_copy_2 : decode cX8_copy 2 = .ok (.iload_n 2, 1) := by decide +kernel
theorem dX8_copy_3 : decode cX8_copy 3 = .ok (.invokestatic 43, 3) := by decide +kernel
theorem dX8_copy_6 : decode cX8_copy 6 = .ok (.iload_n 3, 1) := by decide +kernel
theorem dX8_copy_7 : decode cX8_copy 7 = .ok (.iadd, 1) := by decide +kernel
theorem dX8_copy_8 : decode cX8_copy 8 = .ok (.invokevirtual 39, 3) := by decide +kernel
theorem dX8_copy_11 : decode cX8_copy 11 = .ok (.iload_n 3, 1) := by decide +kernel
theorem dX8_copy_12 : decode cX8_copy 12 = .ok (.ifCond .le 71, 3) := by decide +kernel
theorem dX8_copy_15 : decode cX8_copy 15 = .ok (.aload_n 0, 1) := by decide +kernel
theorem dX8_copy_16 : decode cX8_copy 16 = .ok (.iload_n 1, 1) := by decide +kernel
theorem dX8_copy_17 : decode cX8_copy 17 = .ok (.invokevirtual 35, 3) := by decide +kernel
theorem dX8_copy_20 : decode cX8_copy 20 = .ok (.ifCond .eq 63, 3) := by decide +kernel
theorem dX8_copy_23 : decode cX8_copy 23 = .ok (.aload_n 0, 1) := by decide +kernel
theorem dX8_copy_24 : decode cX8_copy 24 = .ok (.iload_n 2, 1) := by decide +kernel
theorem dX8_copy_25 : decode cX8_copy 25 = .ok (.invokevirtual 35, 3) := by decide +kernel
theorem dX8_copy_28 : decode cX8_copy 28 = .ok (.ifCond .eq 55, 3) := by decide +kernel
theorem dX8_copy_31 : decode cX8_copy 31 = .ok (.aload_n 0, 1) := by decide +kernel
theorem dX8_copy_32 : decode cX8_copy 32 = .ok (.iload_n 1, 1) := by decide +kernel
theorem dX8_copy_33 : decode cX8_copy 33 = .ok (.iload_n 3, 1) := by decide +kernel
theorem dX8_copy_34 : decode cX8_copy 34 = .ok (.iadd, 1) := by decide +kernel
theorem dX8_copy_35 : decode cX8_copy 35 = .ok (.iconst 1, 1) := by decide +kernel
theorem dX8_copy_36 : decode cX8_copy 36 = .ok (.isub, 1) := by decide +kernel
theorem dX8_copy_37 : decode cX8_copy 37 = .ok (.invokevirtual 35, 3) := by decide +kernel
theorem dX8_copy_40 : decode cX8_copy 40 = .ok (.ifCond .eq 43, 3) := by decide +kernel
theorem dX8_copy_43 : decode cX8_copy 43 = .ok (.aload_n 0, 1) := by decide +kernel
theorem dX8_copy_44 : decode cX8_copy 44 = .ok (.iload_n 2, 1) := by decide +kernel
theorem dX8_copy_45 : decode cX8_copy 45 = .ok (.iload_n 3, 1) := by decide +kernel
theorem dX8_copy_46 : decode cX8_copy 46 = .ok (.iadd, 1) := by decide +kernel
theorem dX8_copy_47 : decode cX8_copy 47 = .ok (.iconst 1, 1) := by decide +kernel
theorem dX8_copy_48 : decode cX8_copy 48 = .ok (.isub, 1) := by decide +kernel
theorem dX8_copy_49 : decode cX8_copy 49 = .ok (.invokevirtual 35, 3) := by decide +kernel
theorem dX8_copy_52 : decode cX8_copy 52 = .ok (.ifCond .eq 31, 3) := by decide +kernel
theorem dX8_copy_55 : decode cX8_copy 55 = .ok (.aload_n 0, 1) := by decide +kernel
theorem dX8_copy_56 : decode cX8_copy 56 = .ok (.getfield 11, 3) := by decide +kernel
theorem dX8_copy_59 : decode cX8_copy 59 = .ok (.iload_n 1, 1) := by decide +kernel
theorem dX8_copy_60 : decode cX8_copy 60 = .ok (.aload_n 0, 1) := by decide +kernel
theorem dX8_copy_61 : decode cX8_copy 61 = .ok (.getfield 11, 3) := by decide +kernel
theorem dX8_copy_64 : decode cX8_copy 64 = .ok (.iload_n 2, 1) := by decide +kernel
theorem dX8_copy_65 : decode cX8_copy 65 = .ok (.iload_n 3, 1) := by decide +kernel
theorem dX8_copy_66 : decode cX8_copy 66 = .ok (.invokestatic 49, 3) := by decide +kernel
theorem dX8_copy_69 : decode cX8_copy 69 = .ok (.aload_n 0, 1) := by decide +kernel
theorem dX8_copy_70 : decode cX8_copy 70 = .ok (.getfield 15, 3) := by decide +kernel
theorem dX8_copy_73 : decode cX8_copy 73 = .ok (.iload_n 1, 1) := by decide +kernel
theorem dX8_copy_74 : decode cX8_copy 74 = .ok (.aload_n 0, 1) := by decide +kernel
theorem dX8_copy_75 : decode cX8_copy 75 = .ok (.getfield 15, 3) := by decide +kernel
theorem dX8_copy_78 : decode cX8_copy 78 = .ok (.iload_n 2, 1) := by decide +kernel
theorem dX8_copy_79 : decode cX8_copy 79 = .ok (.iload_n 3, 1) := by decide +kernel
theorem dX8_copy_80 : decode cX8_copy 80 = .ok (.invokestatic 49, 3) := by decide +kernel
theorem dX8_copy_83 : decode cX8_copy 83 = .ok (.return_, 1) := by decide +kernel
abbrev cs_t_X8_copy_n (cB cI cJ cZ : ClassId) (h0 hV hB n : Nat) (vf : Nat → Int64) (bf : Nat → Int32) (wo wp : Value) (f1 t1 w1 : Nat) : va_W := [(h0, .inr (9, [.ref hV, .ref hB, wo, wp])), (hV, .inl (cJ, n, .inr (.inl vf))), (hB, .inl (cB, n, .inl bf))]
abbrev pc_t_X8_copy_n (dC : Nat → ClassId) (dI : Nat → Nat → Nat) (sz : Nat) (cB cI cJ cZ : ClassId) (h0 hV hB n : Nat) (vf : Nat → Int64) (bf : Nat → Int32) (wo wp : Value) (f1 t1 w1 : Nat) : Array Value → State → Prop := va_Pc [.ref h0, .int (nI f1), .int (nI t1), .int (nI w1)] (fun U => U.heap.size = sz ∧ va_P (dC, dI) vwCl [(h0, .inr (9, [.ref hV, .ref hB, wo, wp])), (hV, .inl (cJ, n, .inr (.inl vf))), (hB, .inl (cB, n, .inl bf))] U.heap ∧ va_K (dC, dI) vwCl [(cB, .byte), (cI, .int), (cJ, .long), (cZ, .boolean)] U ∧ va_D (fun _ => True) [(h0, .inr (9, [.ref hV, .ref hB, wo, wp])), (hV, .inl (cJ, n, .inr (.inl vf))), (hB, .inl (cB, n, .inl bf))])
abbrev qc_t_X8_copy_n (dC : Nat → ClassId) (dI : Nat → Nat → Nat) (cB cI cJ cZ : ClassId) (h0 hV hB n : Nat) (vf : Nat → Int64) (bf : Nat → Int32) (wo wp : Value) (f1 t1 w1 : Nat) (A : Nat → Prop) : Array Value → State → Outcome → State → Prop := va_Qv (fun (u : Unit) => match u with | _ => True) (fun (u : Unit) t_ => match u with | _ => va_P (dC, dI) vwCl [(h0, .inr (9, [.ref hV, .ref hB, wo, wp])), (hV, .inl (cJ, n, .inr (.inl (va_cpy vf vf f1 t1 w1)))), (hB, .inl (cB, n, .inl (va_cpy bf bf f1 t1 w1)))] t_.heap ∧ va_K (dC, dI) vwCl [(cB, .byte), (cI, .int), (cJ, .long), (cZ, .boolean)] t_ ∧ va_D A [(h0, .inr (9, [.ref hV, .ref hB, wo, wp])), (hV, .inl (cJ, n, .inr (.inl (va_cpy vf vf f1 t1 w1)))), (hB, .inl (cB, n, .inl (va_cpy bf bf f1 t1 w1)))]) A
set_option maxHeartbeats 4000000 in
set_option maxRecDepth 100000 in
theorem t_X8_copy_n (l : Launch) (dC : Nat → ClassId) (dI : Nat → Nat → Nat) (sz : Nat) (cB cI cJ cZ : ClassId) (h0 hV hB n : Nat) (vf : Nat → Int64) (bf : Nat → Int32) (wo wp : Value) (f1 t1 w1 : Nat) (hn : n < 500000) (hy : sb_Fit bf) (hf : f1 + w1 ≤ n) (ht : t1 + w1 ≤ n) (hw1 : 0 < w1) : Met l yX8_copy (wsOf yX8_copy cX8_copy 4 none) ({ frames := 2, cells := 0, slots := 0, locals := 120 }) (pc_t_X8_copy_n dC dI sz cB cI cJ cZ h0 hV hB n vf bf wo wp f1 t1 w1) (qc_t_X8_copy_n dC dI cB cI cJ cZ h0 hV hB n vf bf wo wp f1 t1 w1 (va_A (cs_t_X8_copy_n cB cI cJ cZ h0 hV hB n vf bf wo wp f1 t1 w1) sz)) 0 0 (va_A (cs_t_X8_copy_n cB cI cJ cZ h0 hV hB n vf bf wo wp f1 t1 w1) sz) := by
  refine Met.ofW (cc := cX8_copy) (maxL := 4) (ret := none) (by decide) rfl ?_
  intro p e s m args below meth c s₁ B hml hv
  obtain ⟨rfl, hsz, hP, hK, hD0⟩ := hv
  have hx := B.exec
  have hb := B.bytes
  have hr := B.returns
  have hts := atoms_spec (ws := (wsOf yX8_copy cX8_copy 4 none)) B.pre
  have hown : s.vm.findClass RX8 = some m.cls := findClass_of_methodNamed B.named
  have hlocks := B.notSynchronized
  subst hsz
  have hD := hD0.self (sz := s.heap.size)
  generalize hAe : va_A (cs_t_X8_copy_n cB cI cJ cZ h0 hV hB n vf bf wo wp f1 t1 w1) s.heap.size = A at hD ⊢
  have hA : ∀ q : Nat, s.heap.size ≤ q → A q := fun q h => by rw [← hAe]; exact Or.inr h
  have hS : va_S A s.heap s.heap [] := va_S.rf
  have hP : va_P (dC, dI) vwCl [(h0, .inr (9, [.ref hV, .ref hB, wo, wp])), (hV, .inl (cJ, n, .inr (.inl vf))), (hB, .inl (cB, n, .inl bf))] s.heap := hP
  have hl := lv_entry ([.ref h0, .int (nI f1), .int (nI t1), .int (nI w1)]) (n := 4) (Nat.le_of_ble_eq_true rfl)
  rw [lg_entry_eq]
  generalize (lg_sl ([.ref h0, .int (nI f1), .int (nI t1), .int (nI w1)]) ++ List.replicate (4 - (lg_sl ([.ref h0, .int (nI f1), .int (nI t1), .int (nI w1)])).length) Slot.unset).toArray = ls at hl ⊢
  have hl : lv_has ls 4 [(0, .ref h0), (1, .int (nI f1)), (2, .int (nI t1)), (3, .int (nI w1))] := hl
  refine lv_aload_n hx hb dX8_copy_0 rfl (lv_at hl 0 rfl) ?_
  refine lv_iload_n hx hb dX8_copy_1 rfl (lv_at hl 1 rfl) ?_
  refine lv_iload_n hx hb dX8_copy_2 rfl (lv_at hl 2 rfl) ?_
  refine va_mmax hx hb (hml.trans hl.1.symm) hown (hts _ (List.mem_cons_of_mem _ kw_1409)) (hts _ (List.mem_cons_of_mem _ kw_369)) (hts _ (List.mem_cons_of_mem _ kw_190)) (hts _ (List.mem_cons_of_mem _ kc_max)) (Nat.le_of_ble_eq_true rfl) (Nat.le_of_ble_eq_true rfl) (Nat.le_of_ble_eq_true rfl) (Nat.le_of_ble_eq_true rfl) dX8_copy_3 ?_
  refine lv_topi (fun x_1 ex_1 => ?_)
  have ex_1 : x_1 = nI (max f1 t1) := by exact ex_1.trans (mx_nI (by omega) (by omega))
  subst ex_1
  refine lv_iload_n hx hb dX8_copy_6 rfl (lv_at hl 3 rfl) ?_
  refine lv_iadd hx hb dX8_copy_7 ?_
  refine lv_topi (fun x_2 ex_2 => ?_)
  have ex_2 : x_2 = nI (max f1 t1 + w1) := ex_2.trans (nI_add (max f1 t1) w1)
  subst ex_2
  have hPc := hP.sub (ws' := [(h0, .inr (9, [.ref hV, .ref hB, wo, wp])), (hV, .inl (cJ, n, .inr (.inl vf))), (hB, .inl (cB, n, .inl bf))]) [0, 1, 2] rfl
  have hDc := hD.sub (ws' := [(h0, .inr (9, [.ref hV, .ref hB, wo, wp])), (hV, .inl (cJ, n, .inr (.inl vf))), (hB, .inl (cB, n, .inl bf))]) [0, 1, 2] (by decide) rfl
  have hKc := hK.sub (tys' := [(cB, .byte), (cI, .int), (cJ, .long), (cZ, .boolean)]) [0, 1, 2, 3] rfl
  have hFc := va_free (wc := [(h0, .inr (9, [.ref hV, .ref hB, wo, wp])), (hV, .inl (cJ, n, .inr (.inl vf))), (hB, .inl (cB, n, .inl bf))]) hD hS hA [0, 1, 2] rfl
  refine va_callv (va_runV (As := [.int (nI (max f1 t1 + w1))]) (rest := []) ⟨hx, hb, hml, hown, hts⟩ (t_X8_reserve_n l dC dI s.heap.size cB cI cJ cZ h0 hV hB n vf bf wo wp (max f1 t1 + w1) (by omega) (by omega)) (cwV 1 hts (gd_all (in_V kw_1338 kw_1339 kw_1340 kw_188 kc_X8_reserve)) rfl rfl rfl (by decide +kernel) ⟨Nat.le_of_ble_eq_true rfl, Nat.le_of_ble_eq_true rfl⟩) ⟨fun a U g mk q => by obtain ⟨q0, q1, qP, qK, qD⟩ := q; exact ⟨q0, q1, qP, va_K.moved (u := U) (U := U.calling g mk a) (Vm.Alike.refl U.vm) qK, qD⟩, va_recv hKc hPc (ci := 9) (q0 := 0) rfl rfl, fun U hU hW => ⟨rfl, by rw [hU], by rw [hU]; exact hPc, va_K.moved hW.alike hKc, hDc.weaken (fun _ _ _ _ => trivial)⟩⟩ rfl rfl hl.1 rfl (lv_room (Nat.le_of_ble_eq_true rfl)) dX8_copy_8 ⟨Nat.le_of_ble_eq_true rfl, Nat.le_of_ble_eq_true rfl⟩) hS (fun q _ h => hFc q h) hFc (fun u t_ H1 locs ht hvm hw hB hz1 hk1 hS => ?_)
  obtain ⟨hP1, hK1, hD1⟩ := hB
  rw [ht] at hP1
  have hK1 := va_K.moved hvm.symm hK1
  obtain ⟨hP, hD⟩ := va_join (wr := []) (w1 := [(h0, .inr (9, [.ref hV, .ref hB, wo, wp])), (hV, .inl (cJ, n, .inr (.inl vf))), (hB, .inl (cB, n, .inl bf))]) hP hD [0, 1, 2] [] rfl rfl (by decide) (by decide) hk1 hFc hP1 hD1
  have hK := (hK.sub (tys' := []) [] rfl).app hK1
  generalize H1 = H at hP hS ⊢
  have hP : va_P (dC, dI) vwCl [(h0, .inr (9, [.ref hV, .ref hB, wo, wp])), (hV, .inl (cJ, n, .inr (.inl vf))), (hB, .inl (cB, n, .inl bf))] H := hP
  have hD : va_D A [(h0, .inr (9, [.ref hV, .ref hB, wo, wp])), (hV, .inl (cJ, n, .inr (.inl vf))), (hB, .inl (cB, n, .inl bf))] := hD
  have hK : va_K (dC, dI) vwCl [(cB, .byte), (cI, .int), (cJ, .long), (cZ, .boolean)] s := hK
  refine lv_iload_n hx hb dX8_copy_11 rfl (lv_at hl 3 rfl) ?_
  refine lv_if_le (tgt := 83) hx hb dX8_copy_12 (by decide) (fun c_4 => ?_) (fun c_4 => ?_)
  · skip
    have c_4 : w1 ≤ 0 := (nI_leI (a := w1) (b := 0) (by omega) (by omega)).mp c_4
    exact absurd c_4 (by omega)
  · skip
    have c_4 : ¬ (w1 ≤ 0) := fun h => c_4 ((nI_leI (a := w1) (b := 0) (by omega) (by omega)).mpr h)
    refine lv_aload_n hx hb dX8_copy_15 rfl (lv_at hl 0 rfl) ?_
    refine lv_iload_n hx hb dX8_copy_16 rfl (lv_at hl 1 rfl) ?_
    have hPc := hP.sub (ws' := [(h0, .inr (9, [.ref hV, .ref hB, wo, wp])), (hV, .inl (cJ, n, .inr (.inl vf))), (hB, .inl (cB, n, .inl bf))]) [0, 1, 2] rfl
    have hDc := hD.sub (ws' := [(h0, .inr (9, [.ref hV, .ref hB, wo, wp])), (hV, .inl (cJ, n, .inr (.inl vf))), (hB, .inl (cB, n, .inl bf))]) [0, 1, 2] (by decide) rfl
    have hKc := hK.sub (tys' := [(cB, .byte), (cI, .int), (cJ, .long), (cZ, .boolean)]) [0, 1, 2, 3] rfl
    have hFc := va_free (wc := [(h0, .inr (9, [.ref hV, .ref hB, wo, wp])), (hV, .inl (cJ, n, .inr (.inl vf))), (hB, .inl (cB, n, .inl bf))]) hD hS hA [0, 1, 2] rfl
    refine va_calli (va_runV (As := [.int (nI f1)]) (rest := []) ⟨hx, hb, hml, hown, hts⟩ (t_X8_holds l dC dI H.size cB cI cJ cZ h0 hV hB n vf bf wo wp f1 (by omega) (by omega)) (cwV 1 hts (gd_all (in_V kw_1360 kw_1362 kw_67 kw_188 kc_X8_holds)) rfl rfl rfl (by decide +kernel) ⟨Nat.le_of_ble_eq_true rfl, Nat.le_of_ble_eq_true rfl⟩) ⟨fun a U g mk q => by obtain ⟨q0, q1, qP, qK, qD⟩ := q; exact ⟨q0, q1, qP, va_K.moved (u := U) (U := U.calling g mk a) (Vm.Alike.refl U.vm) qK, qD⟩, va_recv hKc hPc (ci := 9) (q0 := 0) rfl rfl, fun U hU hW => ⟨rfl, by rw [hU], by rw [hU]; exact hPc, va_K.moved hW.alike hKc, hDc.weaken (fun _ _ _ _ => trivial)⟩⟩ rfl rfl hl.1 rfl (lv_room (Nat.le_of_ble_eq_true rfl)) dX8_copy_17 ⟨Nat.le_of_ble_eq_true rfl, Nat.le_of_ble_eq_true rfl⟩) hS (fun q _ h => hFc q h) hFc (fun r_5 u t_ H1 locs ht hvm hw hB hz1 hk1 hS => ?_)
    obtain ⟨hP1, hK1, hD1⟩ := hB
    rw [ht] at hP1
    have hK1 := va_K.moved hvm.symm hK1
    obtain ⟨hP, hD⟩ := va_join (wr := []) (w1 := [(h0, .inr (9, [.ref hV, .ref hB, wo, wp])), (hV, .inl (cJ, n, .inr (.inl vf))), (hB, .inl (cB, n, .inl bf))]) hP hD [0, 1, 2] [] rfl rfl (by decide) (by decide) hk1 hFc hP1 hD1
    have hK := (hK.sub (tys' := []) [] rfl).app hK1
    generalize H1 = H at hP hS ⊢
    have hP : va_P (dC, dI) vwCl [(h0, .inr (9, [.ref hV, .ref hB, wo, wp])), (hV, .inl (cJ, n, .inr (.inl vf))), (hB, .inl (cB, n, .inl bf))] H := hP
    have hD : va_D A [(h0, .inr (9, [.ref hV, .ref hB, wo, wp])), (hV, .inl (cJ, n, .inr (.inl vf))), (hB, .inl (cB, n, .inl bf))] := hD
    have hK : va_K (dC, dI) vwCl [(cB, .byte), (cI, .int), (cJ, .long), (cZ, .boolean)] s := hK
    have er_5 : r_5 = 1 := hw
    rw [er_5]
    refine lv_if_eq (tgt := 83) hx hb dX8_copy_20 (by decide) (fun c_6 => ?_) (fun c_6 => ?_)
    · skip
      exact absurd c_6 (by decide)
    · skip
      refine lv_aload_n hx hb dX8_copy_23 rfl (lv_at hl 0 rfl) ?_
      refine lv_iload_n hx hb dX8_copy_24 rfl (lv_at hl 2 rfl) ?_
      have hPc := hP.sub (ws' := [(h0, .inr (9, [.ref hV, .ref hB, wo, wp])), (hV, .inl (cJ, n, .inr (.inl vf))), (hB, .inl (cB, n, .inl bf))]) [0, 1, 2] rfl
      have hDc := hD.sub (ws' := [(h0, .inr (9, [.ref hV, .ref hB, wo, wp])), (hV, .inl (cJ, n, .inr (.inl vf))), (hB, .inl (cB, n, .inl bf))]) [0, 1, 2] (by decide) rfl
      have hKc := hK.sub (tys' := [(cB, .byte), (cI, .int), (cJ, .long), (cZ, .boolean)]) [0, 1, 2, 3] rfl
      have hFc := va_free (wc := [(h0, .inr (9, [.ref hV, .ref hB, wo, wp])), (hV, .inl (cJ, n, .inr (.inl vf))), (hB, .inl (cB, n, .inl bf))]) hD hS hA [0, 1, 2] rfl
      refine va_calli (va_runV (As := [.int (nI t1)]) (rest := []) ⟨hx, hb, hml, hown, hts⟩ (t_X8_holds l dC dI H.size cB cI cJ cZ h0 hV hB n vf bf wo wp t1 (by omega) (by omega)) (cwV 1 hts (gd_all (in_V kw_1360 kw_1362 kw_67 kw_188 kc_X8_holds)) rfl rfl rfl (by decide +kernel) ⟨Nat.le_of_ble_eq_true rfl, Nat.le_of_ble_eq_true rfl⟩) ⟨fun a U g mk q => by obtain ⟨q0, q1, qP, qK, qD⟩ := q; exact ⟨q0, q1, qP, va_K.moved (u := U) (U := U.calling g mk a) (Vm.Alike.refl U.vm) qK, qD⟩, va_recv hKc hPc (ci := 9) (q0 := 0) rfl rfl, fun U hU hW => ⟨rfl, by rw [hU], by rw [hU]; exact hPc, va_K.moved hW.alike hKc, hDc.weaken (fun _ _ _ _ => trivial)⟩⟩ rfl rfl hl.1 rfl (lv_room (Nat.le_of_ble_eq_true rfl)) dX8_copy_25 ⟨Nat.le_of_ble_eq_true rfl, Nat.le_of_ble_eq_true rfl⟩) hS (fun q _ h => hFc q h) hFc (fun r_7 u t_ H1 locs ht hvm hw hB hz1 hk1 hS => ?_)
      obtain ⟨hP1, hK1, hD1⟩ := hB
      rw [ht] at hP1
      have hK1 := va_K.moved hvm.symm hK1
      obtain ⟨hP, hD⟩ := va_join (wr := []) (w1 := [(h0, .inr (9, [.ref hV, .ref hB, wo, wp])), (hV, .inl (cJ, n, .inr (.inl vf))), (hB, .inl (cB, n, .inl bf))]) hP hD [0, 1, 2] [] rfl rfl (by decide) (by decide) hk1 hFc hP1 hD1
      have hK := (hK.sub (tys' := []) [] rfl).app hK1
      generalize H1 = H at hP hS ⊢
      have hP : va_P (dC, dI) vwCl [(h0, .inr (9, [.ref hV, .ref hB, wo, wp])), (hV, .inl (cJ, n, .inr (.inl vf))), (hB, .inl (cB, n, .inl bf))] H := hP
      have hD : va_D A [(h0, .inr (9, [.ref hV, .ref hB, wo, wp])), (hV, .inl (cJ, n, .inr (.inl vf))), (hB, .inl (cB, n, .inl bf))] := hD
      have hK : va_K (dC, dI) vwCl [(cB, .byte), (cI, .int), (cJ, .long), (cZ, .boolean)] s := hK
      have er_7 : r_7 = 1 := hw
      rw [er_7]
      refine lv_if_eq (tgt := 83) hx hb dX8_copy_28 (by decide) (fun c_8 => ?_) (fun c_8 => ?_)
      · skip
        exact absurd c_8 (by decide)
      · skip
        refine lv_aload_n hx hb dX8_copy_31 rfl (lv_at hl 0 rfl) ?_
        refine lv_iload_n hx hb dX8_copy_32 rfl (lv_at hl 1 rfl) ?_
        refine lv_iload_n hx hb dX8_copy_33 rfl (lv_at hl 3 rfl) ?_
        refine lv_iadd hx hb dX8_copy_34 ?_
        refine lv_topi (fun x_9 ex_9 => ?_)
        have ex_9 : x_9 = nI (f1 + w1) := ex_9.trans (nI_add f1 w1)
        subst ex_9
        refine lv_iconst (v := 1) hx hb dX8_copy_35 (by decide) ?_
        refine lv_isub hx hb dX8_copy_36 ?_
        refine lv_topi (fun x_10 ex_10 => ?_)
        have ex_10 : x_10 = nI (f1 + w1 - 1) := ex_10.trans (pk_sub (a := f1 + w1) (b := 1) (by omega))
        subst ex_10
        have hPc := hP.sub (ws' := [(h0, .inr (9, [.ref hV, .ref hB, wo, wp])), (hV, .inl (cJ, n, .inr (.inl vf))), (hB, .inl (cB, n, .inl bf))]) [0, 1, 2] rfl
        have hDc := hD.sub (ws' := [(h0, .inr (9, [.ref hV, .ref hB, wo, wp])), (hV, .inl (cJ, n, .inr (.inl vf))), (hB, .inl (cB, n, .inl bf))]) [0, 1, 2] (by decide) rfl
        have hKc := hK.sub (tys' := [(cB, .byte), (cI, .int), (cJ, .long), (cZ, .boolean)]) [0, 1, 2, 3] rfl
        have hFc := va_free (wc := [(h0, .inr (9, [.ref hV, .ref hB, wo, wp])), (hV, .inl (cJ, n, .inr (.inl vf))), (hB, .inl (cB, n, .inl bf))]) hD hS hA [0, 1, 2] rfl
        refine va_calli (va_runV (As := [.int (nI (f1 + w1 - 1))]) (rest := []) ⟨hx, hb, hml, hown, hts⟩ (t_X8_holds l dC dI H.size cB cI cJ cZ h0 hV hB n vf bf wo wp (f1 + w1 - 1) (by omega) (by omega)) (cwV 1 hts (gd_all (in_V kw_1360 kw_1362 kw_67 kw_188 kc_X8_holds)) rfl rfl rfl (by decide +kernel) ⟨Nat.le_of_ble_eq_true rfl, Nat.le_of_ble_eq_true rfl⟩) ⟨fun a U g mk q => by obtain ⟨q0, q1, qP, qK, qD⟩ := q; exact ⟨q0, q1, qP, va_K.moved (u := U) (U := U.calling g mk a) (Vm.Alike.refl U.vm) qK, qD⟩, va_recv hKc hPc (ci := 9) (q0 := 0) rfl rfl, fun U hU hW => ⟨rfl, by rw [hU], by rw [hU]; exact hPc, va_K.moved hW.alike hKc, hDc.weaken (fun _ _ _ _ => trivial)⟩⟩ rfl rfl hl.1 rfl (lv_room (Nat.le_of_ble_eq_true rfl)) dX8_copy_37 ⟨Nat.le_of_ble_eq_true rfl, Nat.le_of_ble_eq_true rfl⟩) hS (fun q _ h => hFc q h) hFc (fun r_11 u t_ H1 locs ht hvm hw hB hz1 hk1 hS => ?_)
        obtain ⟨hP1, hK1, hD1⟩ := hB
        rw [ht] at hP1
        have hK1 := va_K.moved hvm.symm hK1
        obtain ⟨hP, hD⟩ := va_join (wr := []) (w1 := [(h0, .inr (9, [.ref hV, .ref hB, wo, wp])), (hV, .inl (cJ, n, .inr (.inl vf))), (hB, .inl (cB, n, .inl bf))]) hP hD [0, 1, 2] [] rfl rfl (by decide) (by decide) hk1 hFc hP1 hD1
        have hK := (hK.sub (tys' := []) [] rfl).app hK1
        generalize H1 = H at hP hS ⊢
        have hP : va_P (dC, dI) vwCl [(h0, .inr (9, [.ref hV, .ref hB, wo, wp])), (hV, .inl (cJ, n, .inr (.inl vf))), (hB, .inl (cB, n, .inl bf))] H := hP
        have hD : va_D A [(h0, .inr (9, [.ref hV, .ref hB, wo, wp])), (hV, .inl (cJ, n, .inr (.inl vf))), (hB, .inl (cB, n, .inl bf))] := hD
        have hK : va_K (dC, dI) vwCl [(cB, .byte), (cI, .int), (cJ, .long), (cZ, .boolean)] s := hK
        have er_11 : r_11 = 1 := hw
        rw [er_11]
        refine lv_if_eq (tgt := 83) hx hb dX8_copy_40 (by decide) (fun c_12 => ?_) (fun c_12 => ?_)
        · skip
          exact absurd c_12 (by decide)
        · skip
          refine lv_aload_n hx hb dX8_copy_43 rfl (lv_at hl 0 rfl) ?_
          refine lv_iload_n hx hb dX8_copy_44 rfl (lv_at hl 2 rfl) ?_
          refine lv_iload_n hx hb dX8_copy_45 rfl (lv_at hl 3 rfl) ?_
          refine lv_iadd hx hb dX8_copy_46 ?_
          refine lv_topi (fun x_13 ex_13 => ?_)
          have ex_13 : x_13 = nI (t1 + w1) := ex_13.trans (nI_add t1 w1)
          subst ex_13
          refine lv_iconst (v := 1) hx hb dX8_copy_47 (by decide) ?_
          refine lv_isub hx hb dX8_copy_48 ?_
          refine lv_topi (fun x_14 ex_14 => ?_)
          have ex_14 : x_14 = nI (t1 + w1 - 1) := ex_14.trans (pk_sub (a := t1 + w1) (b := 1) (by omega))
          subst ex_14
          have hPc := hP.sub (ws' := [(h0, .inr (9, [.ref hV, .ref hB, wo, wp])), (hV, .inl (cJ, n, .inr (.inl vf))), (hB, .inl (cB, n, .inl bf))]) [0, 1, 2] rfl
          have hDc := hD.sub (ws' := [(h0, .inr (9, [.ref hV, .ref hB, wo, wp])), (hV, .inl (cJ, n, .inr (.inl vf))), (hB, .inl (cB, n, .inl bf))]) [0, 1, 2] (by decide) rfl
          have hKc := hK.sub (tys' := [(cB, .byte), (cI, .int), (cJ, .long), (cZ, .boolean)]) [0, 1, 2, 3] rfl
          have hFc := va_free (wc := [(h0, .inr (9, [.ref hV, .ref hB, wo, wp])), (hV, .inl (cJ, n, .inr (.inl vf))), (hB, .inl (cB, n, .inl bf))]) hD hS hA [0, 1, 2] rfl
          refine va_calli (va_runV (As := [.int (nI (t1 + w1 - 1))]) (rest := []) ⟨hx, hb, hml, hown, hts⟩ (t_X8_holds l dC dI H.size cB cI cJ cZ h0 hV hB n vf bf wo wp (t1 + w1 - 1) (by omega) (by omega)) (cwV 1 hts (gd_all (in_V kw_1360 kw_1362 kw_67 kw_188 kc_X8_holds)) rfl rfl rfl (by decide +kernel) ⟨Nat.le_of_ble_eq_true rfl, Nat.le_of_ble_eq_true rfl⟩) ⟨fun a U g mk q => by obtain ⟨q0, q1, qP, qK, qD⟩ := q; exact ⟨q0, q1, qP, va_K.moved (u := U) (U := U.calling g mk a) (Vm.Alike.refl U.vm) qK, qD⟩, va_recv hKc hPc (ci := 9) (q0 := 0) rfl rfl, fun U hU hW => ⟨rfl, by rw [hU], by rw [hU]; exact hPc, va_K.moved hW.alike hKc, hDc.weaken (fun _ _ _ _ => trivial)⟩⟩ rfl rfl hl.1 rfl (lv_room (Nat.le_of_ble_eq_true rfl)) dX8_copy_49 ⟨Nat.le_of_ble_eq_true rfl, Nat.le_of_ble_eq_true rfl⟩) hS (fun q _ h => hFc q h) hFc (fun r_15 u t_ H1 locs ht hvm hw hB hz1 hk1 hS => ?_)
          obtain ⟨hP1, hK1, hD1⟩ := hB
          rw [ht] at hP1
          have hK1 := va_K.moved hvm.symm hK1
          obtain ⟨hP, hD⟩ := va_join (wr := []) (w1 := [(h0, .inr (9, [.ref hV, .ref hB, wo, wp])), (hV, .inl (cJ, n, .inr (.inl vf))), (hB, .inl (cB, n, .inl bf))]) hP hD [0, 1, 2] [] rfl rfl (by decide) (by decide) hk1 hFc hP1 hD1
          have hK := (hK.sub (tys' := []) [] rfl).app hK1
          generalize H1 = H at hP hS ⊢
          have hP : va_P (dC, dI) vwCl [(h0, .inr (9, [.ref hV, .ref hB, wo, wp])), (hV, .inl (cJ, n, .inr (.inl vf))), (hB, .inl (cB, n, .inl bf))] H := hP
          have hD : va_D A [(h0, .inr (9, [.ref hV, .ref hB, wo, wp])), (hV, .inl (cJ, n, .inr (.inl vf))), (hB, .inl (cB, n, .inl bf))] := hD
          have hK : va_K (dC, dI) vwCl [(cB, .byte), (cI, .int), (cJ, .long), (cZ, .boolean)] s := hK
          have er_15 : r_15 = 1 := hw
          rw [er_15]
          refine lv_if_eq (tgt := 83) hx hb dX8_copy_52 (by decide) (fun c_16 => ?_) (fun c_16 => ?_)
          · skip
            exact absurd c_16 (by decide)
          · skip
            refine lv_aload_n hx hb dX8_copy_55 rfl (lv_at hl 0 rfl) ?_
            refine va_get (D := (dC, dI)) (ci := 9) (v := .ref hV) (C := RX8) (T := TX8) (N := 4) hx hb hts (fun w h => List.mem_cons_of_mem _ (uG_X8 w h)) hown hK hP 0 rfl rfl 0 (by decide) (hts _ (List.mem_cons_of_mem _ kw_349)) (fun _ h9 => h9) rfl dX8_copy_56 ?_
            refine lv_iload_n hx hb dX8_copy_59 rfl (lv_at hl 1 rfl) ?_
            refine lv_aload_n hx hb dX8_copy_60 rfl (lv_at hl 0 rfl) ?_
            refine va_get (D := (dC, dI)) (ci := 9) (v := .ref hV) (C := RX8) (T := TX8) (N := 4) hx hb hts (fun w h => List.mem_cons_of_mem _ (uG_X8 w h)) hown hK hP 0 rfl rfl 0 (by decide) (hts _ (List.mem_cons_of_mem _ kw_349)) (fun _ h9 => h9) rfl dX8_copy_61 ?_
            refine lv_iload_n hx hb dX8_copy_64 rfl (lv_at hl 2 rfl) ?_
            refine lv_iload_n hx hb dX8_copy_65 rfl (lv_at hl 3 rfl) ?_
            refine va_copyl (n := (nI w1)) (dp := (nI t1)) (sp := (nI f1)) hx hb (hml.trans hl.1.symm) hown (hts _ (List.mem_cons_of_mem _ kw_1364)) (hts _ (List.mem_cons_of_mem _ kw_820)) (hts _ (List.mem_cons_of_mem _ kw_819)) (hts _ (List.mem_cons_of_mem _ kw_202)) hK hP hD hS 1 1 2 2 rfl rfl rfl rfl rfl (nI_pos (n := f1) (by omega)) (nI_pos (n := t1) (by omega)) (nI_pos (n := w1) (by omega)) (by rw [show (nI f1).toNatClampNeg = f1 from nI_clamp (n := f1) (by omega), show (nI w1).toNatClampNeg = w1 from nI_clamp (n := w1) (by omega)]; omega) (by rw [show (nI t1).toNatClampNeg = t1 from nI_clamp (n := t1) (by omega), show (nI w1).toNatClampNeg = w1 from nI_clamp (n := w1) (by omega)]; omega) (fun _ _ => rfl) (Nat.le_of_ble_eq_true rfl) (Nat.le_of_ble_eq_true rfl) dX8_copy_66 (fun H locs hP hD hS => ?_)
            rw [show (nI f1).toNatClampNeg = f1 from nI_clamp (n := f1) (by omega), show (nI t1).toNatClampNeg = t1 from nI_clamp (n := t1) (by omega), show (nI w1).toNatClampNeg = w1 from nI_clamp (n := w1) (by omega)] at hP hD
            have hP : va_P (dC, dI) vwCl [(h0, .inr (9, [.ref hV, .ref hB, wo, wp])), (hV, .inl (cJ, n, .inr (.inl (va_cpy vf vf f1 t1 w1)))), (hB, .inl (cB, n, .inl bf))] H := hP
            have hD : va_D A [(h0, .inr (9, [.ref hV, .ref hB, wo, wp])), (hV, .inl (cJ, n, .inr (.inl (va_cpy vf vf f1 t1 w1)))), (hB, .inl (cB, n, .inl bf))] := hD
            refine lv_aload_n hx hb dX8_copy_69 rfl (lv_at hl 0 rfl) ?_
            refine va_get (D := (dC, dI)) (ci := 9) (v := .ref hB) (C := RX8) (T := TX8) (N := 4) hx hb hts (fun w h => List.mem_cons_of_mem _ (uG_X8 w h)) hown hK hP 0 rfl rfl 1 (by decide) (hts _ (List.mem_cons_of_mem _ kw_350)) (fun _ h9 => h9) rfl dX8_copy_70 ?_
            refine lv_iload_n hx hb dX8_copy_73 rfl (lv_at hl 1 rfl) ?_
            refine lv_aload_n hx hb dX8_copy_74 rfl (lv_at hl 0 rfl) ?_
            refine va_get (D := (dC, dI)) (ci := 9) (v := .ref hB) (C := RX8) (T := TX8) (N := 4) hx hb hts (fun w h => List.mem_cons_of_mem _ (uG_X8 w h)) hown hK hP 0 rfl rfl 1 (by decide) (hts _ (List.mem_cons_of_mem _ kw_350)) (fun _ h9 => h9) rfl dX8_copy_75 ?_
            refine lv_iload_n hx hb dX8_copy_78 rfl (lv_at hl 2 rfl) ?_
            refine lv_iload_n hx hb dX8_copy_79 rfl (lv_at hl 3 rfl) ?_
            refine va_copyi (n := (nI w1)) (dp := (nI t1)) (sp := (nI f1)) hx hb (hml.trans hl.1.symm) hown (hts _ (List.mem_cons_of_mem _ kw_1364)) (hts _ (List.mem_cons_of_mem _ kw_820)) (hts _ (List.mem_cons_of_mem _ kw_819)) (hts _ (List.mem_cons_of_mem _ kw_202)) hK hP hD hS 2 2 0 0 rfl rfl rfl rfl rfl (nI_pos (n := f1) (by omega)) (nI_pos (n := t1) (by omega)) (nI_pos (n := w1) (by omega)) (by rw [show (nI f1).toNatClampNeg = f1 from nI_clamp (n := f1) (by omega), show (nI w1).toNatClampNeg = w1 from nI_clamp (n := w1) (by omega)]; omega) (by rw [show (nI t1).toNatClampNeg = t1 from nI_clamp (n := t1) (by omega), show (nI w1).toNatClampNeg = w1 from nI_clamp (n := w1) (by omega)]; omega) (fun i9 _ => hy _) (Nat.le_of_ble_eq_true rfl) (Nat.le_of_ble_eq_true rfl) dX8_copy_80 (fun H locs hP hD hS => ?_)
            rw [show (nI f1).toNatClampNeg = f1 from nI_clamp (n := f1) (by omega), show (nI t1).toNatClampNeg = t1 from nI_clamp (n := t1) (by omega), show (nI w1).toNatClampNeg = w1 from nI_clamp (n := w1) (by omega)] at hP hD
            have hP : va_P (dC, dI) vwCl [(h0, .inr (9, [.ref hV, .ref hB, wo, wp])), (hV, .inl (cJ, n, .inr (.inl (va_cpy vf vf f1 t1 w1)))), (hB, .inl (cB, n, .inl (va_cpy bf bf f1 t1 w1)))] H := hP
            have hD : va_D A [(h0, .inr (9, [.ref hV, .ref hB, wo, wp])), (hV, .inl (cJ, n, .inr (.inl (va_cpy vf vf f1 t1 w1)))), (hB, .inl (cB, n, .inl (va_cpy bf bf f1 t1 w1)))] := hD
            have hP9 := hP.sub (ws' := [(h0, .inr (9, [.ref hV, .ref hB, wo, wp])), (hV, .inl (cJ, n, .inr (.inl (va_cpy vf vf f1 t1 w1)))), (hB, .inl (cB, n, .inl (va_cpy bf bf f1 t1 w1)))]) [0, 1, 2] rfl
            have hD9 := hD.sub (ws' := [(h0, .inr (9, [.ref hV, .ref hB, wo, wp])), (hV, .inl (cJ, n, .inr (.inl (va_cpy vf vf f1 t1 w1)))), (hB, .inl (cB, n, .inl (va_cpy bf bf f1 t1 w1)))]) [0, 1, 2] (by decide) rfl
            have hK9 := hK.sub (tys' := [(cB, .byte), (cI, .int), (cJ, .long), (cZ, .boolean)]) [0, 1, 2, 3] rfl
            exact W.vret hx hb hr (fun t_ ht hW => ⟨⟨(), rfl, trivial, by rw [ht]; exact hP9, va_K.moved hW.alike hK9, hD9⟩, hS.F ht⟩) hS.2.2 dX8_copy_83
