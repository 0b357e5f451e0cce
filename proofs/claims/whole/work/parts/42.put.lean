theorem capN_lt {n c : Nat} (hn : n < 500000) (hc : c < 200000) : capN n c < 500000 := by unfold capN; split <;> omega
abbrev cs_t_X8_put (cB cI cJ cZ : ClassId) (h0 hV hB n : Nat) (vf : Nat → Int64) (bf : Nat → Int32) (wo wp : Value) (c1 : Nat) (v : Int64) (b : Int32) : va_W := [(h0, .inr (9, [.ref hV, .ref hB, wo, wp])), (hV, .inl (cJ, n, .inr (.inl vf))), (hB, .inl (cB, n, .inl bf))]
abbrev pc_t_X8_put (dC : Nat → ClassId) (dI : Nat → Nat → Nat) (sz : Nat) (cB cI cJ cZ : ClassId) (h0 hV hB n : Nat) (vf : Nat → Int64) (bf : Nat → Int32) (wo wp : Value) (c1 : Nat) (v : Int64) (b : Int32) : Array Value → State → Prop := va_Pc [.ref h0, .int (nI c1), .long v, .int b] (fun U => U.heap.size = sz ∧ va_P (dC, dI) vwCl [(h0, .inr (9, [.ref hV, .ref hB, wo, wp])), (hV, .inl (cJ, n, .inr (.inl vf))), (hB, .inl (cB, n, .inl bf))] U.heap ∧ va_K (dC, dI) vwCl [(cB, .byte), (cI, .int), (cJ, .long), (cZ, .boolean)] U ∧ va_D (fun _ => True) [(h0, .inr (9, [.ref hV, .ref hB, wo, wp])), (hV, .inl (cJ, n, .inr (.inl vf))), (hB, .inl (cB, n, .inl bf))])
abbrev qc_t_X8_put (dC : Nat → ClassId) (dI : Nat → Nat → Nat) (cB cI cJ cZ : ClassId) (h0 hV hB n : Nat) (vf : Nat → Int64) (bf : Nat → Int32) (wo wp : Value) (c1 : Nat) (v : Int64) (b : Int32) (A : Nat → Prop) : Array Value → State → Outcome → State → Prop := va_Qv (fun (u : Unit) => match u with | _ => True) (fun (u : Unit) t_ => match u with | _ => ∃ (a1 a2 : Nat), va_P (dC, dI) vwCl [(h0, .inr (9, [.ref a1, .ref a2, wo, wp])), (a1, .inl (cJ, capN n (c1 + 1), .inr (.inl (vp_updL vf c1 (pv v b))))), (a2, .inl (cB, capN n (c1 + 1), .inl (upd bf c1 (pb b))))] t_.heap ∧ va_K (dC, dI) vwCl [(cB, .byte), (cI, .int), (cJ, .long), (cZ, .boolean)] t_ ∧ va_D A [(h0, .inr (9, [.ref a1, .ref a2, wo, wp])), (a1, .inl (cJ, capN n (c1 + 1), .inr (.inl (vp_updL vf c1 (pv v b))))), (a2, .inl (cB, capN n (c1 + 1), .inl (upd bf c1 (pb b))))]) A
set_option maxHeartbeats 4000000 in
set_option maxRecDepth 100000 in
theorem t_X8_put (l : Launch) (dC : Nat → ClassId) (dI : Nat → Nat → Nat) (sz : Nat) (cB cI cJ cZ : ClassId) (h0 hV hB n : Nat) (vf : Nat → Int64) (bf : Nat → Int32) (wo wp : Value) (c1 : Nat) (v : Int64) (b : Int32) (hn : n < 500000) (hzv : ∀ j, n ≤ j → vf j = 0) (hzb : ∀ j, n ≤ j → bf j = 0) (hy : sb_Fit bf) (h64 : 64 ≤ n) (hc1 : c1 + 1 < 200000) : Met l yX8_put (wsOf yX8_put cX8_put 5 none) ({ frames := 4, cells := (capN n (c1 + 1) - n) / 16, slots := 4 * (capN n (c1 + 1) - n), locals := 240 }) (pc_t_X8_put dC dI sz cB cI cJ cZ h0 hV hB n vf bf wo wp c1 v b) (qc_t_X8_put dC dI cB cI cJ cZ h0 hV hB n vf bf wo wp c1 v b (va_A (cs_t_X8_put cB cI cJ cZ h0 hV hB n vf bf wo wp c1 v b) sz)) ((capN n (c1 + 1) - n) / 16) (4 * (capN n (c1 + 1) - n)) (va_A (cs_t_X8_put cB cI cJ cZ h0 hV hB n vf bf wo wp c1 v b) sz) := by
  refine Met.ofW (cc := cX8_put) (maxL := 5) (ret := none) (by decide) rfl ?_
  intro p e s m args below meth c s₁ B hml hv
  obtain ⟨rfl, hsz, hP, hK, hD0⟩ := hv
  have hx := B.exec
  have hb := B.bytes
  have hr := B.returns
  have hts := atoms_spec (ws := (wsOf yX8_put cX8_put 5 none)) B.pre
  have hown : s.vm.findClass RX8 = some m.cls := findClass_of_methodNamed B.named
  have hlocks := B.notSynchronized
  subst hsz
  have hD := hD0.self (sz := s.heap.size)
  generalize hAe : va_A (cs_t_X8_put cB cI cJ cZ h0 hV hB n vf bf wo wp c1 v b) s.heap.size = A at hD ⊢
  have hA : ∀ q : Nat, s.heap.size ≤ q → A q := fun q h => by rw [← hAe]; exact Or.inr h
  have hS : va_S A s.heap s.heap [] := va_S.rf
  have hP : va_P (dC, dI) vwCl [(h0, .inr (9, [.ref hV, .ref hB, wo, wp])), (hV, .inl (cJ, n, .inr (.inl vf))), (hB, .inl (cB, n, .inl bf))] s.heap := hP
  have hl := lv_entry ([.ref h0, .int (nI c1), .long v, .int b]) (n := 5) (Nat.le_of_ble_eq_true rfl)
  rw [lg_entry_eq]
  generalize (lg_sl ([.ref h0, .int (nI c1), .long v, .int b]) ++ List.replicate (5 - (lg_sl ([.ref h0, .int (nI c1), .long v, .int b])).length) Slot.unset).toArray = ls at hl ⊢
  have hl : lv_has ls 5 [(0, .ref h0), (1, .int (nI c1)), (2, .long v), (4, .int b)] := hl
  have hcap := capN_le n (c1 + 1)
  have hcl : capN n (c1 + 1) < 500000 := capN_lt hn hc1
  refine lv_aload_n hx hb dX8_put_0 rfl (lv_at hl 0 rfl) ?_
  refine lv_iload_n hx hb dX8_put_1 rfl (lv_at hl 1 rfl) ?_
  refine lv_iconst (v := 1) hx hb dX8_put_2 (by decide) ?_
  refine lv_iadd hx hb dX8_put_3 ?_
  refine lv_topi (fun x_1 ex_1 => ?_)
  have ex_1 : x_1 = nI (c1 + 1) := ex_1.trans (nI_add c1 1)
  subst ex_1
  have hPc := hP.sub (ws' := [(h0, .inr (9, [.ref hV, .ref hB, wo, wp])), (hV, .inl (cJ, n, .inr (.inl vf))), (hB, .inl (cB, n, .inl bf))]) [0, 1, 2] rfl
  have hDc := hD.sub (ws' := [(h0, .inr (9, [.ref hV, .ref hB, wo, wp])), (hV, .inl (cJ, n, .inr (.inl vf))), (hB, .inl (cB, n, .inl bf))]) [0, 1, 2] (by decide) rfl
  have hKc := hK.sub (tys' := [(cB, .byte), (cI, .int), (cJ, .long), (cZ, .boolean)]) [0, 1, 2, 3] rfl
  have hFc := va_free (wc := [(h0, .inr (9, [.ref hV, .ref hB, wo, wp])), (hV, .inl (cJ, n, .inr (.inl vf))), (hB, .inl (cB, n, .inl bf))]) hD hS hA [0, 1, 2] rfl
  refine va_callv (va_runV (As := [.int (nI (c1 + 1))]) (rest := []) ⟨hx, hb, hml, hown, hts⟩ (t_X8_reserve l dC dI s.heap.size cB cI cJ cZ h0 hV hB n vf bf wo wp (c1 + 1) hn hzv hzb hy h64 (by omega)) (cwV 1 hts (gd_all (in_V kw_1338 kw_1339 kw_1340 kw_188 kc_X8_reserve)) rfl rfl rfl (by decide +kernel) ⟨Nat.le_of_ble_eq_true rfl, Nat.le_of_ble_eq_true rfl⟩) ⟨fun a U g mk q => by obtain ⟨q0, q1, qP, qK, qD⟩ := q; exact ⟨q0, q1, qP, va_K.moved (u := U) (U := U.calling g mk a) (Vm.Alike.refl U.vm) qK, qD⟩, va_recv hKc hPc (ci := 9) (q0 := 0) rfl rfl, fun U hU hW => ⟨rfl, by rw [hU], by rw [hU]; exact hPc, va_K.moved hW.alike hKc, hDc.weaken (fun _ _ _ _ => trivial)⟩⟩ rfl rfl hl.1 rfl (lv_room (Nat.le_of_ble_eq_true rfl)) dX8_put_4 ⟨by show 0 + (capN n (c1 + 1) - n) / 16 ≤ (capN n (c1 + 1) - n) / 16; omega, by show 0 + 4 * (capN n (c1 + 1) - n) ≤ 4 * (capN n (c1 + 1) - n); omega⟩) hS (fun q _ h => hFc q h) hFc (fun u t_ H1 locs ht hvm hw hB hz1 hk1 hS => ?_)
  obtain ⟨a1, a2, hP1, hK1, hD1⟩ := hB
  rw [ht] at hP1
  have hK1 := va_K.moved hvm.symm hK1
  obtain ⟨hP, hD⟩ := va_join (wr := []) (w1 := [(h0, .inr (9, [.ref a1, .ref a2, wo, wp])), (a1, .inl (cJ, capN n (c1 + 1), .inr (.inl vf))), (a2, .inl (cB, capN n (c1 + 1), .inl bf))]) hP hD [0, 1, 2] [] rfl rfl (by decide) (by decide) hk1 hFc hP1 hD1
  have hK := (hK.sub (tys' := []) [] rfl).app hK1
  generalize H1 = H at hP hS ⊢
  have hP : va_P (dC, dI) vwCl [(h0, .inr (9, [.ref a1, .ref a2, wo, wp])), (a1, .inl (cJ, capN n (c1 + 1), .inr (.inl vf))), (a2, .inl (cB, capN n (c1 + 1), .inl bf))] H := hP
  have hD : va_D A [(h0, .inr (9, [.ref a1, .ref a2, wo, wp])), (a1, .inl (cJ, capN n (c1 + 1), .inr (.inl vf))), (a2, .inl (cB, capN n (c1 + 1), .inl bf))] := hD
  have hK : va_K (dC, dI) vwCl [(cB, .byte), (cI, .int), (cJ, .long), (cZ, .boolean)] s := hK
  refine lv_aload_n hx hb dX8_put_7 rfl (lv_at hl 0 rfl) ?_
  refine lv_iload_n hx hb dX8_put_8 rfl (lv_at hl 1 rfl) ?_
  have hPc := hP.sub (ws' := [(h0, .inr (9, [.ref a1, .ref a2, wo, wp])), (a1, .inl (cJ, capN n (c1 + 1), .inr (.inl vf))), (a2, .inl (cB, capN n (c1 + 1), .inl bf))]) [0, 1, 2] rfl
  have hDc := hD.sub (ws' := [(h0, .inr (9, [.ref a1, .ref a2, wo, wp])), (a1, .inl (cJ, capN n (c1 + 1), .inr (.inl vf))), (a2, .inl (cB, capN n (c1 + 1), .inl bf))]) [0, 1, 2] (by decide) rfl
  have hKc := hK.sub (tys' := [(cB, .byte), (cI, .int), (cJ, .long), (cZ, .boolean)]) [0, 1, 2, 3] rfl
  have hFc := va_free (wc := [(h0, .inr (9, [.ref a1, .ref a2, wo, wp])), (a1, .inl (cJ, capN n (c1 + 1), .inr (.inl vf))), (a2, .inl (cB, capN n (c1 + 1), .inl bf))]) hD hS hA [0, 1, 2] rfl
  refine va_calli (va_runV (As := [.int (nI c1)]) (rest := []) ⟨hx, hb, hml, hown, hts⟩ (t_X8_holds l dC dI H.size cB cI cJ cZ h0 a1 a2 (capN n (c1 + 1)) vf bf wo wp c1 (by omega) (by omega)) (cwV 1 hts (gd_all (in_V kw_1360 kw_1362 kw_67 kw_188 kc_X8_holds)) rfl rfl rfl (by decide +kernel) ⟨Nat.le_of_ble_eq_true rfl, Nat.le_of_ble_eq_true rfl⟩) ⟨fun a U g mk q => by obtain ⟨q0, q1, qP, qK, qD⟩ := q; exact ⟨q0, q1, qP, va_K.moved (u := U) (U := U.calling g mk a) (Vm.Alike.refl U.vm) qK, qD⟩, va_recv hKc hPc (ci := 9) (q0 := 0) rfl rfl, fun U hU hW => ⟨rfl, by rw [hU], by rw [hU]; exact hPc, va_K.moved hW.alike hKc, hDc.weaken (fun _ _ _ _ => trivial)⟩⟩ rfl rfl hl.1 rfl (lv_room (Nat.le_of_ble_eq_true rfl)) dX8_put_9 ⟨by show 0 + ((capN n (c1 + 1) - n) / 16) + 0 ≤ (capN n (c1 + 1) - n) / 16; omega, by show 0 + (4 * (capN n (c1 + 1) - n)) + 0 ≤ 4 * (capN n (c1 + 1) - n); omega⟩) hS (fun q _ h => hFc q h) hFc (fun r_3 u t_ H1 locs ht hvm hw hB hz1 hk1 hS => ?_)
  obtain ⟨hP1, hK1, hD1⟩ := hB
  rw [ht] at hP1
  have hK1 := va_K.moved hvm.symm hK1
  obtain ⟨hP, hD⟩ := va_join (wr := []) (w1 := [(h0, .inr (9, [.ref a1, .ref a2, wo, wp])), (a1, .inl (cJ, capN n (c1 + 1), .inr (.inl vf))), (a2, .inl (cB, capN n (c1 + 1), .inl bf))]) hP hD [0, 1, 2] [] rfl rfl (by decide) (by decide) hk1 hFc hP1 hD1
  have hK := (hK.sub (tys' := []) [] rfl).app hK1
  generalize H1 = H at hP hS ⊢
  have hP : va_P (dC, dI) vwCl [(h0, .inr (9, [.ref a1, .ref a2, wo, wp])), (a1, .inl (cJ, capN n (c1 + 1), .inr (.inl vf))), (a2, .inl (cB, capN n (c1 + 1), .inl bf))] H := hP
  have hD : va_D A [(h0, .inr (9, [.ref a1, .ref a2, wo, wp])), (a1, .inl (cJ, capN n (c1 + 1), .inr (.inl vf))), (a2, .inl (cB, capN n (c1 + 1), .inl bf))] := hD
  have hK : va_K (dC, dI) vwCl [(cB, .byte), (cI, .int), (cJ, .long), (cZ, .boolean)] s := hK
  have er_3 : r_3 = 1 := hw
  rw [er_3]
  refine lv_if_eq (tgt := 40) hx hb dX8_put_12 (by decide) (fun c_4 => ?_) (fun c_4 => ?_)
  · skip
    exact absurd c_4 (by decide)
  · skip
    refine lv_aload_n hx hb dX8_put_15 rfl (lv_at hl 0 rfl) ?_
    refine va_get (D := (dC, dI)) (ci := 9) (v := .ref a1) (C := RX8) (T := TX8) (N := 4) hx hb hts (fun w h => List.mem_cons_of_mem _ (uG_X8 w h)) hown hK hP 0 rfl rfl 0 (by decide) (hts _ (List.mem_cons_of_mem _ kw_349)) (fun _ h9 => h9) rfl dX8_put_16 ?_
    refine lv_iload_n hx hb dX8_put_19 rfl (lv_at hl 1 rfl) ?_
    have mg_5 : ∀ (H : Heap) (locs : List Loc), va_P (dC, dI) vwCl [(h0, .inr (9, [.ref a1, .ref a2, wo, wp])), (a1, .inl (cJ, capN n (c1 + 1), .inr (.inl vf))), (a2, .inl (cB, capN n (c1 + 1), .inl bf))] H → va_D A [(h0, .inr (9, [.ref a1, .ref a2, wo, wp])), (a1, .inl (cJ, capN n (c1 + 1), .inr (.inl vf))), (a2, .inl (cB, capN n (c1 + 1), .inl bf))] → va_S A s.heap H locs → W p l e (headSpec (wsOf yX8_put cX8_put 5 none) ({ frames := 4, cells := (capN n (c1 + 1) - n) / 16, slots := 4 * (capN n (c1 + 1) - n), locals := 240 })).room s m ([.ref h0, .int (nI c1), .long v, .int b] : List Value).toArray below meth c H locs (0 + ((capN n (c1 + 1) - n) / 16)) (0 + (4 * (capN n (c1 + 1) - n))) (MQ below (qc_t_X8_put dC dI cB cI cJ cZ h0 hV hB n vf bf wo wp c1 v b A) ([.ref h0, .int (nI c1), .long v, .int b] : List Value).toArray s ((capN n (c1 + 1) - n) / 16) (4 * (capN n (c1 + 1) - n)) A) (F0 m 30 ls [.long (pv v b), .int (nI c1), .ref a1]) := by
      intro H locs hP hD hS
      refine va_last hx hb hK hP hD hS 1 2 rfl rfl (i := (nI c1)) (x := (pv v b)) (vp_in_nI (n := c1) (N := capN n (c1 + 1)) (by omega) (by omega)) dX8_put_30 (fun H locs hP hD hS => ?_)
      rw [show (nI c1).toNatClampNeg = c1 from nI_clamp (n := c1) (by omega)] at hP hD
      have hP : va_P (dC, dI) vwCl [(h0, .inr (9, [.ref a1, .ref a2, wo, wp])), (a1, .inl (cJ, capN n (c1 + 1), .inr (.inl (vp_updL vf c1 (pv v b))))), (a2, .inl (cB, capN n (c1 + 1), .inl bf))] H := hP
      have hD : va_D A [(h0, .inr (9, [.ref a1, .ref a2, wo, wp])), (a1, .inl (cJ, capN n (c1 + 1), .inr (.inl (vp_updL vf c1 (pv v b))))), (a2, .inl (cB, capN n (c1 + 1), .inl bf))] := hD
      refine lv_aload_n hx hb dX8_put_31 rfl (lv_at hl 0 rfl) ?_
      refine va_get (D := (dC, dI)) (ci := 9) (v := .ref a2) (C := RX8) (T := TX8) (N := 4) hx hb hts (fun w h => List.mem_cons_of_mem _ (uG_X8 w h)) hown hK hP 0 rfl rfl 1 (by decide) (hts _ (List.mem_cons_of_mem _ kw_350)) (fun _ h9 => h9) rfl dX8_put_32 ?_
      refine lv_iload_n hx hb dX8_put_35 rfl (lv_at hl 1 rfl) ?_
      refine lv_iload hx hb dX8_put_36 (lv_at hl 3 rfl) ?_
      refine lv_i2b hx hb dX8_put_38 rfl ?_
      refine va_bast hx hb hK hP hD hS 2 0 rfl rfl (i := (nI c1)) (x := (b.toInt8.toInt32)) (vp_in_nI (n := c1) (N := capN n (c1 + 1)) (by omega) (by omega)) dX8_put_39 (fun H locs hP hD hS => ?_)
      rw [show (nI c1).toNatClampNeg = c1 from nI_clamp (n := c1) (by omega)] at hP hD
      have hP : va_P (dC, dI) vwCl [(h0, .inr (9, [.ref a1, .ref a2, wo, wp])), (a1, .inl (cJ, capN n (c1 + 1), .inr (.inl (vp_updL vf c1 (pv v b))))), (a2, .inl (cB, capN n (c1 + 1), .inl (upd bf c1 (vp_nar .byte (b.toInt8.toInt32)))))] H := hP
      have hD : va_D A [(h0, .inr (9, [.ref a1, .ref a2, wo, wp])), (a1, .inl (cJ, capN n (c1 + 1), .inr (.inl (vp_updL vf c1 (pv v b))))), (a2, .inl (cB, capN n (c1 + 1), .inl (upd bf c1 (vp_nar .byte (b.toInt8.toInt32)))))] := hD
      have hP9 := hP.sub (ws' := [(h0, .inr (9, [.ref a1, .ref a2, wo, wp])), (a1, .inl (cJ, capN n (c1 + 1), .inr (.inl (vp_updL vf c1 (pv v b))))), (a2, .inl (cB, capN n (c1 + 1), .inl (upd bf c1 (vp_nar .byte (b.toInt8.toInt32)))))]) [0, 1, 2] rfl
      have hD9 := hD.sub (ws' := [(h0, .inr (9, [.ref a1, .ref a2, wo, wp])), (a1, .inl (cJ, capN n (c1 + 1), .inr (.inl (vp_updL vf c1 (pv v b))))), (a2, .inl (cB, capN n (c1 + 1), .inl (upd bf c1 (vp_nar .byte (b.toInt8.toInt32)))))]) [0, 1, 2] (by decide) rfl
      have hK9 := hK.sub (tys' := [(cB, .byte), (cI, .int), (cJ, .long), (cZ, .boolean)]) [0, 1, 2, 3] rfl
      refine W.widen (k := (capN n (c1 + 1) - n) / 16) (n := 4 * (capN n (c1 + 1) - n)) (by omega) (by omega) ?_
      exact W.vret hx hb hr (fun t_ ht hW => ⟨⟨(), rfl, trivial, a1, a2, by rw [ht]; exact hP9, va_K.moved hW.alike hK9, hD9⟩, hS.F ht⟩) hS.2.2 dX8_put_40
    refine lv_iload hx hb dX8_put_20 (lv_at hl 3 rfl) ?_
    refine lv_if_eq (tgt := 29) hx hb dX8_put_22 (by decide) (fun c_6 => ?_) (fun c_6 => ?_)
    · skip
      refine lv_lload_n hx hb dX8_put_29 rfl (lv_at hl 2 rfl) ?_
      exact W.eq (by unfold pv; rw [if_pos c_6]) (mg_5 _ _ hP hD hS)
    · skip
      refine lv_lconst (v := 0) hx hb dX8_put_25 (by decide) ?_
      refine lv_goto (tgt := 30) hx hb dX8_put_26 (by decide) ?_
      exact W.eq (by unfold pv; rw [if_neg c_6]) (mg_5 _ _ hP hD hS)
