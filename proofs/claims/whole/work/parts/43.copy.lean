
abbrev cs_t_X8_copy (cB cI cJ cZ : ClassId) (h0 hV hB n : Nat) (vf : Nat → Int64) (bf : Nat → Int32) (wo wp : Value) (f1 t1 w1 : Nat) : va_W := [(h0, .inr (9, [.ref hV, .ref hB, wo, wp])), (hV, .inl (cJ, n, .inr (.inl vf))), (hB, .inl (cB, n, .inl bf))]
abbrev pc_t_X8_copy (dC : Nat → ClassId) (dI : Nat → Nat → Nat) (sz : Nat) (cB cI cJ cZ : ClassId) (h0 hV hB n : Nat) (vf : Nat → Int64) (bf : Nat → Int32) (wo wp : Value) (f1 t1 w1 : Nat) : Array Value → State → Prop := va_Pc [.ref h0, .int (nI f1), .int (nI t1), .int (nI w1)] (fun U => U.heap.size = sz ∧ va_P (dC, dI) vwCl [(h0, .inr (9, [.ref hV, .ref hB, wo, wp])), (hV, .inl (cJ, n, .inr (.inl vf))), (hB, .inl (cB, n, .inl bf))] U.heap ∧ va_K (dC, dI) vwCl [(cB, .byte), (cI, .int), (cJ, .long), (cZ, .boolean)] U ∧ va_D (fun _ => True) [(h0, .inr (9, [.ref hV, .ref hB, wo, wp])), (hV, .inl (cJ, n, .inr (.inl vf))), (hB, .inl (cB, n, .inl bf))])
abbrev qc_t_X8_copy (dC : Nat → ClassId) (dI : Nat → Nat → Nat) (cB cI cJ cZ : ClassId) (h0 hV hB n : Nat) (vf : Nat → Int64) (bf : Nat → Int32) (wo wp : Value) (f1 t1 w1 : Nat) (A : Nat → Prop) : Array Value → State → Outcome → State → Prop := va_Qv (fun (u : Unit) => match u with | _ => True) (fun (u : Unit) t_ => match u with | _ => ∃ (a1 a2 : Nat), va_P (dC, dI) vwCl [(h0, .inr (9, [.ref a1, .ref a2, wo, wp])), (a1, .inl (cJ, capN n (max f1 t1 + w1), .inr (.inl (va_cpy vf vf f1 t1 w1)))), (a2, .inl (cB, capN n (max f1 t1 + w1), .inl (va_cpy bf bf f1 t1 w1)))] t_.heap ∧ va_K (dC, dI) vwCl [(cB, .byte), (cI, .int), (cJ, .long), (cZ, .boolean)] t_ ∧ va_D A [(h0, .inr (9, [.ref a1, .ref a2, wo, wp])), (a1, .inl (cJ, capN n (max f1 t1 + w1), .inr (.inl (va_cpy vf vf f1 t1 w1)))), (a2, .inl (cB, capN n (max f1 t1 + w1), .inl (va_cpy bf bf f1 t1 w1)))]) A
set_option maxHeartbeats 4000000 in
set_option maxRecDepth 100000 in
theorem t_X8_copy (l : Launch) (dC : Nat → ClassId) (dI : Nat → Nat → Nat) (sz : Nat) (cB cI cJ cZ : ClassId) (h0 hV hB n : Nat) (vf : Nat → Int64) (bf : Nat → Int32) (wo wp : Value) (f1 t1 w1 : Nat) (hn : n < 500000) (hzv : ∀ j, n ≤ j → vf j = 0) (hzb : ∀ j, n ≤ j → bf j = 0) (hy : sb_Fit bf) (h64 : 64 ≤ n) (hf9 : f1 + w1 < 200000) (ht9 : t1 + w1 < 200000) (hw1 : 0 < w1) : Met l yX8_copy (wsOf yX8_copy cX8_copy 4 none) ({ frames := 4, cells := (capN n (max f1 t1 + w1) - n) / 16, slots := 4 * (capN n (max f1 t1 + w1) - n), locals := 240 }) (pc_t_X8_copy dC dI sz cB cI cJ cZ h0 hV hB n vf bf wo wp f1 t1 w1) (qc_t_X8_copy dC dI cB cI cJ cZ h0 hV hB n vf bf wo wp f1 t1 w1 (va_A (cs_t_X8_copy cB cI cJ cZ h0 hV hB n vf bf wo wp f1 t1 w1) sz)) ((capN n (max f1 t1 + w1) - n) / 16) (4 * (capN n (max f1 t1 + w1) - n)) (va_A (cs_t_X8_copy cB cI cJ cZ h0 hV hB n vf bf wo wp f1 t1 w1) sz) := by
  refine Met.ofW (cc := cX8_copy) (maxL := 4) (ret := none) (by decide) rfl ?_
  intro p e s m args below meth c s₁ B hml hv
  obtain ⟨rfl, hsz, hP, hK, hD0⟩ := hv
  have hx := B.exec
  have hb := B.bytes
  have hr := B.returns
  have hts := atoms_spec (ws := (wsOf yX8_copy cX8_copy 4 none)) B.pre
  have hown : s.vm.findClass RX8 = some m.cls := findClass_of_methodNamed B.named
  have hlocks := B.notSynchronized
  subst hsz
  have hD := hD0.self (sz := s.heap.size)
  generalize hAe : va_A (cs_t_X8_copy cB cI cJ cZ h0 hV hB n vf bf wo wp f1 t1 w1) s.heap.size = A at hD ⊢
  have hA : ∀ q : Nat, s.heap.size ≤ q → A q := fun q h => by rw [← hAe]; exact Or.inr h
  have hS : va_S A s.heap s.heap [] := va_S.rf
  have hP : va_P (dC, dI) vwCl [(h0, .inr (9, [.ref hV, .ref hB, wo, wp])), (hV, .inl (cJ, n, .inr (.inl vf))), (hB, .inl (cB, n, .inl bf))] s.heap := hP
  have hl := lv_entry ([.ref h0, .int (nI f1), .int (nI t1), .int (nI w1)]) (n := 4) (Nat.le_of_ble_eq_true rfl)
  rw [lg_entry_eq]
  generalize (lg_sl ([.ref h0, .int (nI f1), .int (nI t1), .int (nI w1)]) ++ List.replicate (4 - (lg_sl ([.ref h0, .int (nI f1), .int (nI t1), .int (nI w1)])).length) Slot.unset).toArray = ls at hl ⊢
  have hl : lv_has ls 4 [(0, .ref h0), (1, .int (nI f1)), (2, .int (nI t1)), (3, .int (nI w1))] := hl
  have hcap := capN_le n (max f1 t1 + w1)
  have hcl : capN n (max f1 t1 + w1) < 500000 := capN_lt hn (by omega)
  refine lv_aload_n hx hb dX8_copy_0 rfl (lv_at hl 0 rfl) ?_
  refine lv_iload_n hx hb dX8_copy_1 rfl (lv_at hl 1 rfl) ?_
  refine lv_iload_n hx hb dX8_copy_2 rfl (lv_at hl 2 rfl) ?_
  refine va_mmax hx hb (hml.trans hl.1.symm) hown (hts _ (List.mem_cons_of_mem _ kw_1409)) (hts _ (List.mem_cons_of_mem _ kw_369)) (hts _ (List.mem_cons_of_mem _ kw_190)) (hts _ (List.mem_cons_of_mem _ kc_max)) (Nat.le_of_ble_eq_true rfl) (Nat.le_of_ble_eq_true rfl) (by show 0 ≤ (capN n (max f1 t1 + w1) - n) / 16; omega) (by show 0 ≤ 4 * (capN n (max f1 t1 + w1) - n); omega) dX8_copy_3 ?_
  refine lv_topi (fun x_1 ex_1 => ?_)
  have ex_1 : x_1 = nI (max f1 t1) := by exact ex_1.trans (mx_nI (by omega) (by omega))
  subst ex_1
  refine lv_iload_n hx hb dX8_copy_6 rfl (lv_at hl 3 rfl) ?_
  refine lv_iadd hx hb dX8_copy_7 ?_
  refine lv_topi (fun x_2 ex_2 => ?_)
  have ex_2 : x_2 = nI (max f1 t1 + w1) := ex_2.trans (nI_add (max f1 t1) w1)
  subst ex_2
  have hPc := hP.sub (ws' := [(h0, .inr (9, [.ref hV, .ref hB, wo, wp])), (hV, .inl (cJ, n, .inr (.inl vf))), (hB, .inl (cB, n, .inl bf))]) [0, 1, 2] rfl
  have hDc := hD.sub (ws' := [(h0, .inr (9, [.ref hV, .ref hB, wo, wp])), (hV, .inl (cJ, n, .inr (.inl vf))), (hB, .inl (cB, n, .inl bf))]) [0, 1, 2] (by decide) rfl
  have hKc := hK.sub (tys' := [(cB, .byte), (cI, .int), (cJ, .long), (cZ, .boolean)]) [0, 1, 2, 3] rfl
  have hFc := va_free (wc := [(h0, .inr (9, [.ref hV, .ref hB, wo, wp])), (hV, .inl (cJ, n, .inr (.inl vf))), (hB, .inl (cB, n, .inl bf))]) hD hS hA [0, 1, 2] rfl
  refine va_callv (va_runV (As := [.int (nI (max f1 t1 + w1))]) (rest := []) ⟨hx, hb, hml, hown, hts⟩ (t_X8_reserve l dC dI s.heap.size cB cI cJ cZ h0 hV hB n vf bf wo wp (max f1 t1 + w1) hn hzv hzb hy h64 (by omega)) (cwV 1 hts (gd_all (in_V kw_1338 kw_1339 kw_1340 kw_188 kc_X8_reserve)) rfl rfl rfl (by decide +kernel) ⟨Nat.le_of_ble_eq_true rfl, Nat.le_of_ble_eq_true rfl⟩) ⟨fun a U g mk q => by obtain ⟨q0, q1, qP, qK, qD⟩ := q; exact ⟨q0, q1, qP, va_K.moved (u := U) (U := U.calling g mk a) (Vm.Alike.refl U.vm) qK, qD⟩, va_recv hKc hPc (ci := 9) (q0 := 0) rfl rfl, fun U hU hW => ⟨rfl, by rw [hU], by rw [hU]; exact hPc, va_K.moved hW.alike hKc, hDc.weaken (fun _ _ _ _ => trivial)⟩⟩ rfl rfl hl.1 rfl (lv_room (Nat.le_of_ble_eq_true rfl)) dX8_copy_8 ⟨by show 0 + (capN n (max f1 t1 + w1) - n) / 16 ≤ (capN n (max f1 t1 + w1) - n) / 16; omega, by show 0 + 4 * (capN n (max f1 t1 + w1) - n) ≤ 4 * (capN n (max f1 t1 + w1) - n); omega⟩) hS (fun q _ h => hFc q h) hFc (fun u t_ H1 locs ht hvm hw hB hz1 hk1 hS => ?_)
  obtain ⟨a1, a2, hP1, hK1, hD1⟩ := hB
  rw [ht] at hP1
  have hK1 := va_K.moved hvm.symm hK1
  obtain ⟨hP, hD⟩ := va_join (wr := []) (w1 := [(h0, .inr (9, [.ref a1, .ref a2, wo, wp])), (a1, .inl (cJ, capN n (max f1 t1 + w1), .inr (.inl vf))), (a2, .inl (cB, capN n (max f1 t1 + w1), .inl bf))]) hP hD [0, 1, 2] [] rfl rfl (by decide) (by decide) hk1 hFc hP1 hD1
  have hK := (hK.sub (tys' := []) [] rfl).app hK1
  generalize H1 = H at hP hS ⊢
  have hP : va_P (dC, dI) vwCl [(h0, .inr (9, [.ref a1, .ref a2, wo, wp])), (a1, .inl (cJ, capN n (max f1 t1 + w1), .inr (.inl vf))), (a2, .inl (cB, capN n (max f1 t1 + w1), .inl bf))] H := hP
  have hD : va_D A [(h0, .inr (9, [.ref a1, .ref a2, wo, wp])), (a1, .inl (cJ, capN n (max f1 t1 + w1), .inr (.inl vf))), (a2, .inl (cB, capN n (max f1 t1 + w1), .inl bf))] := hD
  have hK : va_K (dC, dI) vwCl [(cB, .byte), (cI, .int), (cJ, .long), (cZ, .boolean)] s := hK
  refine lv_iload_n hx hb dX8_copy_11 rfl (lv_at hl 3 rfl) ?_
  refine lv_if_le (tgt := 83) hx hb dX8_copy_12 (by decide) (fun c_4 => ?_) (fun c_4 => ?_)
  · skip
    have c_4 : w1 ≤ 0 := (nI_leI (a := w1) (b := 0) (by omega) (by omega)).mp c_4
    exact absurd c_4 (by omega)
  · skip
    have c_4 : ¬ (w1 ≤ 0) := fun h => c_4 ((nI_leI (a := w1) (b := 0) (by omega) (by omega)).mpr h)
    refine lv_aload_n hx hb dX8_copy_15 rfl (lv_at hl 0 rfl) ?_
    refine lv_iload_n hx hb dX8_copy_16 rfl (lv_at hl 1 rfl) ?_
    have hPc := hP.sub (ws' := [(h0, .inr (9, [.ref a1, .ref a2, wo, wp])), (a1, .inl (cJ, capN n (max f1 t1 + w1), .inr (.inl vf))), (a2, .inl (cB, capN n (max f1 t1 + w1), .inl bf))]) [0, 1, 2] rfl
    have hDc := hD.sub (ws' := [(h0, .inr (9, [.ref a1, .ref a2, wo, wp])), (a1, .inl (cJ, capN n (max f1 t1 + w1), .inr (.inl vf))), (a2, .inl (cB, capN n (max f1 t1 + w1), .inl bf))]) [0, 1, 2] (by decide) rfl
    have hKc := hK.sub (tys' := [(cB, .byte), (cI, .int), (cJ, .long), (cZ, .boolean)]) [0, 1, 2, 3] rfl
    have hFc := va_free (wc := [(h0, .inr (9, [.ref a1, .ref a2, wo, wp])), (a1, .inl (cJ, capN n (max f1 t1 + w1), .inr (.inl vf))), (a2, .inl (cB, capN n (max f1 t1 + w1), .inl bf))]) hD hS hA [0, 1, 2] rfl
    refine va_calli (va_runV (As := [.int (nI f1)]) (rest := []) ⟨hx, hb, hml, hown, hts⟩ (t_X8_holds l dC dI H.size cB cI cJ cZ h0 a1 a2 (capN n (max f1 t1 + w1)) vf bf wo wp f1 (by omega) (by omega)) (cwV 1 hts (gd_all (in_V kw_1360 kw_1362 kw_67 kw_188 kc_X8_holds)) rfl rfl rfl (by decide +kernel) ⟨Nat.le_of_ble_eq_true rfl, Nat.le_of_ble_eq_true rfl⟩) ⟨fun a U g mk q => by obtain ⟨q0, q1, qP, qK, qD⟩ := q; exact ⟨q0, q1, qP, va_K.moved (u := U) (U := U.calling g mk a) (Vm.Alike.refl U.vm) qK, qD⟩, va_recv hKc hPc (ci := 9) (q0 := 0) rfl rfl, fun U hU hW => ⟨rfl, by rw [hU], by rw [hU]; exact hPc, va_K.moved hW.alike hKc, hDc.weaken (fun _ _ _ _ => trivial)⟩⟩ rfl rfl hl.1 rfl (lv_room (Nat.le_of_ble_eq_true rfl)) dX8_copy_17 ⟨by show 0 + ((capN n (max f1 t1 + w1) - n) / 16) + 0 ≤ (capN n (max f1 t1 + w1) - n) / 16; omega, by show 0 + (4 * (capN n (max f1 t1 + w1) - n)) + 0 ≤ 4 * (capN n (max f1 t1 + w1) - n); omega⟩) hS (fun q _ h => hFc q h) hFc (fun r_5 u t_ H1 locs ht hvm hw hB hz1 hk1 hS => ?_)
    obtain ⟨hP1, hK1, hD1⟩ := hB
    rw [ht] at hP1
    have hK1 := va_K.moved hvm.symm hK1
    obtain ⟨hP, hD⟩ := va_join (wr := []) (w1 := [(h0, .inr (9, [.ref a1, .ref a2, wo, wp])), (a1, .inl (cJ, capN n (max f1 t1 + w1), .inr (.inl vf))), (a2, .inl (cB, capN n (max f1 t1 + w1), .inl bf))]) hP hD [0, 1, 2] [] rfl rfl (by decide) (by decide) hk1 hFc hP1 hD1
    have hK := (hK.sub (tys' := []) [] rfl).app hK1
    generalize H1 = H at hP hS ⊢
    have hP : va_P (dC, dI) vwCl [(h0, .inr (9, [.ref a1, .ref a2, wo, wp])), (a1, .inl (cJ, capN n (max f1 t1 + w1), .inr (.inl vf))), (a2, .inl (cB, capN n (max f1 t1 + w1), .inl bf))] H := hP
    have hD : va_D A [(h0, .inr (9, [.ref a1, .ref a2, wo, wp])), (a1, .inl (cJ, capN n (max f1 t1 + w1), .inr (.inl vf))), (a2, .inl (cB, capN n (max f1 t1 + w1), .inl bf))] := hD
    have hK : va_K (dC, dI) vwCl [(cB, .byte), (cI, .int), (cJ, .long), (cZ, .boolean)] s := hK
    have er_5 : r_5 = 1 := hw
    rw [er_5]
    refine lv_if_eq (tgt := 83) hx hb dX8_copy_20 (by decide) (fun c_6 => ?_) (fun c_6 => ?_)
    · skip
      exact absurd c_6 (by decide)
    · skip
      refine lv_aload_n hx hb dX8_copy_23 rfl (lv_at hl 0 rfl) ?_
      refine lv_iload_n hx hb dX8_copy_24 rfl (lv_at hl 2 rfl) ?_
      have hPc := hP.sub (ws' := [(h0, .inr (9, [.ref a1, .ref a2, wo, wp])), (a1, .inl (cJ, capN n (max f1 t1 + w1), .inr (.inl vf))), (a2, .inl (cB, capN n (max f1 t1 + w1), .inl bf))]) [0, 1, 2] rfl
      have hDc := hD.sub (ws' := [(h0, .inr (9, [.ref a1, .ref a2, wo, wp])), (a1, .inl (cJ, capN n (max f1 t1 + w1), .inr (.inl vf))), (a2, .inl (cB, capN n (max f1 t1 + w1), .inl bf))]) [0, 1, 2] (by decide) rfl
      have hKc := hK.sub (tys' := [(cB, .byte), (cI, .int), (cJ, .long), (cZ, .boolean)]) [0, 1, 2, 3] rfl
      have hFc := va_free (wc := [(h0, .inr (9, [.ref a1, .ref a2, wo, wp])), (a1, .inl (cJ, capN n (max f1 t1 + w1), .inr (.inl vf))), (a2, .inl (cB, capN n (max f1 t1 + w1), .inl bf))]) hD hS hA [0, 1, 2] rfl
      refine va_calli (va_runV (As := [.int (nI t1)]) (rest := []) ⟨hx, hb, hml, hown, hts⟩ (t_X8_holds l dC dI H.size cB cI cJ cZ h0 a1 a2 (capN n (max f1 t1 + w1)) vf bf wo wp t1 (by omega) (by omega)) (cwV 1 hts (gd_all (in_V kw_1360 kw_1362 kw_67 kw_188 kc_X8_holds)) rfl rfl rfl (by decide +kernel) ⟨Nat.le_of_ble_eq_true rfl, Nat.le_of_ble_eq_true rfl⟩) ⟨fun a U g mk q => by obtain ⟨q0, q1, qP, qK, qD⟩ := q; exact ⟨q0, q1, qP, va_K.moved (u := U) (U := U.calling g mk a) (Vm.Alike.refl U.vm) qK, qD⟩, va_recv hKc hPc (ci := 9) (q0 := 0) rfl rfl, fun U hU hW => ⟨rfl, by rw [hU], by rw [hU]; exact hPc, va_K.moved hW.alike hKc, hDc.weaken (fun _ _ _ _ => trivial)⟩⟩ rfl rfl hl.1 rfl (lv_room (Nat.le_of_ble_eq_true rfl)) dX8_copy_25 ⟨by show 0 + ((capN n (max f1 t1 + w1) - n) / 16) + 0 ≤ (capN n (max f1 t1 + w1) - n) / 16; omega, by show 0 + (4 * (capN n (max f1 t1 + w1) - n)) + 0 ≤ 4 * (capN n (max f1 t1 + w1) - n); omega⟩) hS (fun q _ h => hFc q h) hFc (fun r_7 u t_ H1 locs ht hvm hw hB hz1 hk1 hS => ?_)
      obtain ⟨hP1, hK1, hD1⟩ := hB
      rw [ht] at hP1
      have hK1 := va_K.moved hvm.symm hK1
      obtain ⟨hP, hD⟩ := va_join (wr := []) (w1 := [(h0, .inr (9, [.ref a1, .ref a2, wo, wp])), (a1, .inl (cJ, capN n (max f1 t1 + w1), .inr (.inl vf))), (a2, .inl (cB, capN n (max f1 t1 + w1), .inl bf))]) hP hD [0, 1, 2] [] rfl rfl (by decide) (by decide) hk1 hFc hP1 hD1
      have hK := (hK.sub (tys' := []) [] rfl).app hK1
      generalize H1 = H at hP hS ⊢
      have hP : va_P (dC, dI) vwCl [(h0, .inr (9, [.ref a1, .ref a2, wo, wp])), (a1, .inl (cJ, capN n (max f1 t1 + w1), .inr (.inl vf))), (a2, .inl (cB, capN n (max f1 t1 + w1), .inl bf))] H := hP
      have hD : va_D A [(h0, .inr (9, [.ref a1, .ref a2, wo, wp])), (a1, .inl (cJ, capN n (max f1 t1 + w1), .inr (.inl vf))), (a2, .inl (cB, capN n (max f1 t1 + w1), .inl bf))] := hD
      have hK : va_K (dC, dI) vwCl [(cB, .byte), (cI, .int), (cJ, .long), (cZ, .boolean)] s := hK
      have er_7 : r_7 = 1 := hw
      rw [er_7]
      refine lv_if_eq (tgt := 83) hx hb dX8_copy_28 (by decide) (fun c_8 => ?_) (fun c_8 => ?_)
      · skip
        exact absurd c_8 (by decide)
      · skip
        refine lv_aload_n hx hb dX8_copy_31 rfl (lv_at hl 0 rfl) ?_
        refine lv_iload_n hx hb dX8_copy_32 rfl (lv_at hl 1 rfl) ?_
        refine lv_iload_n hx hb dX8_copy_33 rfl (lv_at hl 3 rfl) ?_
        refine lv_iadd hx hb dX8_copy_34 ?_
        refine lv_topi (fun x_9 ex_9 => ?_)
        have ex_9 : x_9 = nI (f1 + w1) := ex_9.trans (nI_add f1 w1)
        subst ex_9
        refine lv_iconst (v := 1) hx hb dX8_copy_35 (by decide) ?_
        refine lv_isub hx hb dX8_copy_36 ?_
        refine lv_topi (fun x_10 ex_10 => ?_)
        have ex_10 : x_10 = nI (f1 + w1 - 1) := ex_10.trans (pk_sub (a := f1 + w1) (b := 1) (by omega))
        subst ex_10
        have hPc := hP.sub (ws' := [(h0, .inr (9, [.ref a1, .ref a2, wo, wp])), (a1, .inl (cJ, capN n (max f1 t1 + w1), .inr (.inl vf))), (a2, .inl (cB, capN n (max f1 t1 + w1), .inl bf))]) [0, 1, 2] rfl
        have hDc := hD.sub (ws' := [(h0, .inr (9, [.ref a1, .ref a2, wo, wp])), (a1, .inl (cJ, capN n (max f1 t1 + w1), .inr (.inl vf))), (a2, .inl (cB, capN n (max f1 t1 + w1), .inl bf))]) [0, 1, 2] (by decide) rfl
        have hKc := hK.sub (tys' := [(cB, .byte), (cI, .int), (cJ, .long), (cZ, .boolean)]) [0, 1, 2, 3] rfl
        have hFc := va_free (wc := [(h0, .inr (9, [.ref a1, .ref a2, wo, wp])), (a1, .inl (cJ, capN n (max f1 t1 + w1), .inr (.inl vf))), (a2, .inl (cB, capN n (max f1 t1 + w1), .inl bf))]) hD hS hA [0, 1, 2] rfl
        refine va_calli (va_runV (As := [.int (nI (f1 + w1 - 1))]) (rest := []) ⟨hx, hb, hml, hown, hts⟩ (t_X8_holds l dC dI H.size cB cI cJ cZ h0 a1 a2 (capN n (max f1 t1 + w1)) vf bf wo wp (f1 + w1 - 1) (by omega) (by omega)) (cwV 1 hts (gd_all (in_V kw_1360 kw_1362 kw_67 kw_188 kc_X8_holds)) rfl rfl rfl (by decide +kernel) ⟨Nat.le_of_ble_eq_true rfl, Nat.le_of_ble_eq_true rfl⟩) ⟨fun a U g mk q => by obtain ⟨q0, q1, qP, qK, qD⟩ := q; exact ⟨q0, q1, qP, va_K.moved (u := U) (U := U.calling g mk a) (Vm.Alike.refl U.vm) qK, qD⟩, va_recv hKc hPc (ci := 9) (q0 := 0) rfl rfl, fun U hU hW => ⟨rfl, by rw [hU], by rw [hU]; exact hPc, va_K.moved hW.alike hKc, hDc.weaken (fun _ _ _ _ => trivial)⟩⟩ rfl rfl hl.1 rfl (lv_room (Nat.le_of_ble_eq_true rfl)) dX8_copy_37 ⟨by show 0 + ((capN n (max f1 t1 + w1) - n) / 16) + 0 ≤ (capN n (max f1 t1 + w1) - n) / 16; omega, by show 0 + (4 * (capN n (max f1 t1 + w1) - n)) + 0 ≤ 4 * (capN n (max f1 t1 + w1) - n); omega⟩) hS (fun q _ h => hFc q h) hFc (fun r_11 u t_ H1 locs ht hvm hw hB hz1 hk1 hS => ?_)
        obtain ⟨hP1, hK1, hD1⟩ := hB
        rw [ht] at hP1
        have hK1 := va_K.moved hvm.symm hK1
        obtain ⟨hP, hD⟩ := va_join (wr := []) (w1 := [(h0, .inr (9, [.ref a1, .ref a2, wo, wp])), (a1, .inl (cJ, capN n (max f1 t1 + w1), .inr (.inl vf))), (a2, .inl (cB, capN n (max f1 t1 + w1), .inl bf))]) hP hD [0, 1, 2] [] rfl rfl (by decide) (by decide) hk1 hFc hP1 hD1
        have hK := (hK.sub (tys' := []) [] rfl).app hK1
        generalize H1 = H at hP hS ⊢
        have hP : va_P (dC, dI) vwCl [(h0, .inr (9, [.ref a1, .ref a2, wo, wp])), (a1, .inl (cJ, capN n (max f1 t1 + w1), .inr (.inl vf))), (a2, .inl (cB, capN n (max f1 t1 + w1), .inl bf))] H := hP
        have hD : va_D A [(h0, .inr (9, [.ref a1, .ref a2, wo, wp])), (a1, .inl (cJ, capN n (max f1 t1 + w1), .inr (.inl vf))), (a2, .inl (cB, capN n (max f1 t1 + w1), .inl bf))] := hD
        have hK : va_K (dC, dI) vwCl [(cB, .byte), (cI, .int), (cJ, .long), (cZ, .boolean)] s := hK
        have er_11 : r_11 = 1 := hw
        rw [er_11]
        refine lv_if_eq (tgt := 83) hx hb dX8_copy_40 (by decide) (fun c_12 => ?_) (fun c_12 => ?_)
        · skip
          exact absurd c_12 (by decide)
        · skip
          refine lv_aload_n hx hb dX8_copy_43 rfl (lv_at hl 0 rfl) ?_
          refine lv_iload_n hx hb dX8_copy_44 rfl (lv_at hl 2 rfl) ?_
          refine lv_iload_n hx hb dX8_copy_45 rfl (lv_at hl 3 rfl) ?_
          refine lv_iadd hx hb dX8_copy_46 ?_
          refine lv_topi (fun x_13 ex_13 => ?_)
          have ex_13 : x_13 = nI (t1 + w1) := ex_13.trans (nI_add t1 w1)
          subst ex_13
          refine lv_iconst (v := 1) hx hb dX8_copy_47 (by decide) ?_
          refine lv_isub hx hb dX8_copy_48 ?_
          refine lv_topi (fun x_14 ex_14 => ?_)
          have ex_14 : x_14 = nI (t1 + w1 - 1) := ex_14.trans (pk_sub (a := t1 + w1) (b := 1) (by omega))
          subst ex_14
          have hPc := hP.sub (ws' := [(h0, .inr (9, [.ref a1, .ref a2, wo, wp])), (a1, .inl (cJ, capN n (max f1 t1 + w1), .inr (.inl vf))), (a2, .inl (cB, capN n (max f1 t1 + w1), .inl bf))]) [0, 1, 2] rfl
          have hDc := hD.sub (ws' := [(h0, .inr (9, [.ref a1, .ref a2, wo, wp])), (a1, .inl (cJ, capN n (max f1 t1 + w1), .inr (.inl vf))), (a2, .inl (cB, capN n (max f1 t1 + w1), .inl bf))]) [0, 1, 2] (by decide) rfl
          have hKc := hK.sub (tys' := [(cB, .byte), (cI, .int), (cJ, .long), (cZ, .boolean)]) [0, 1, 2, 3] rfl
          have hFc := va_free (wc := [(h0, .inr (9, [.ref a1, .ref a2, wo, wp])), (a1, .inl (cJ, capN n (max f1 t1 + w1), .inr (.inl vf))), (a2, .inl (cB, capN n (max f1 t1 + w1), .inl bf))]) hD hS hA [0, 1, 2] rfl
          refine va_calli (va_runV (As := [.int (nI (t1 + w1 - 1))]) (rest := []) ⟨hx, hb, hml, hown, hts⟩ (t_X8_holds l dC dI H.size cB cI cJ cZ h0 a1 a2 (capN n (max f1 t1 + w1)) vf bf wo wp (t1 + w1 - 1) (by omega) (by omega)) (cwV 1 hts (gd_all (in_V kw_1360 kw_1362 kw_67 kw_188 kc_X8_holds)) rfl rfl rfl (by decide +kernel) ⟨Nat.le_of_ble_eq_true rfl, Nat.le_of_ble_eq_true rfl⟩) ⟨fun a U g mk q => by obtain ⟨q0, q1, qP, qK, qD⟩ := q; exact ⟨q0, q1, qP, va_K.moved (u := U) (U := U.calling g mk a) (Vm.Alike.refl U.vm) qK, qD⟩, va_recv hKc hPc (ci := 9) (q0 := 0) rfl rfl, fun U hU hW => ⟨rfl, by rw [hU], by rw [hU]; exact hPc, va_K.moved hW.alike hKc, hDc.weaken (fun _ _ _ _ => trivial)⟩⟩ rfl rfl hl.1 rfl (lv_room (Nat.le_of_ble_eq_true rfl)) dX8_copy_49 ⟨by show 0 + ((capN n (max f1 t1 + w1) - n) / 16) + 0 ≤ (capN n (max f1 t1 + w1) - n) / 16; omega, by show 0 + (4 * (capN n (max f1 t1 + w1) - n)) + 0 ≤ 4 * (capN n (max f1 t1 + w1) - n); omega⟩) hS (fun q _ h => hFc q h) hFc (fun r_15 u t_ H1 locs ht hvm hw hB hz1 hk1 hS => ?_)
          obtain ⟨hP1, hK1, hD1⟩ := hB
          rw [ht] at hP1
          have hK1 := va_K.moved hvm.symm hK1
          obtain ⟨hP, hD⟩ := va_join (wr := []) (w1 := [(h0, .inr (9, [.ref a1, .ref a2, wo, wp])), (a1, .inl (cJ, capN n (max f1 t1 + w1), .inr (.inl vf))), (a2, .inl (cB, capN n (max f1 t1 + w1), .inl bf))]) hP hD [0, 1, 2] [] rfl rfl (by decide) (by decide) hk1 hFc hP1 hD1
          have hK := (hK.sub (tys' := []) [] rfl).app hK1
          generalize H1 = H at hP hS ⊢
          have hP : va_P (dC, dI) vwCl [(h0, .inr (9, [.ref a1, .ref a2, wo, wp])), (a1, .inl (cJ, capN n (max f1 t1 + w1), .inr (.inl vf))), (a2, .inl (cB, capN n (max f1 t1 + w1), .inl bf))] H := hP
          have hD : va_D A [(h0, .inr (9, [.ref a1, .ref a2, wo, wp])), (a1, .inl (cJ, capN n (max f1 t1 + w1), .inr (.inl vf))), (a2, .inl (cB, capN n (max f1 t1 + w1), .inl bf))] := hD
          have hK : va_K (dC, dI) vwCl [(cB, .byte), (cI, .int), (cJ, .long), (cZ, .boolean)] s := hK
          have er_15 : r_15 = 1 := hw
          rw [er_15]
          refine lv_if_eq (tgt := 83) hx hb dX8_copy_52 (by decide) (fun c_16 => ?_) (fun c_16 => ?_)
          · skip
            exact absurd c_16 (by decide)
          · skip
            refine lv_aload_n hx hb dX8_copy_55 rfl (lv_at hl 0 rfl) ?_
            refine va_get (D := (dC, dI)) (ci := 9) (v := .ref a1) (C := RX8) (T := TX8) (N := 4) hx hb hts (fun w h => List.mem_cons_of_mem _ (uG_X8 w h)) hown hK hP 0 rfl rfl 0 (by decide) (hts _ (List.mem_cons_of_mem _ kw_349)) (fun _ h9 => h9) rfl dX8_copy_56 ?_
            refine lv_iload_n hx hb dX8_copy_59 rfl (lv_at hl 1 rfl) ?_
            refine lv_aload_n hx hb dX8_copy_60 rfl (lv_at hl 0 rfl) ?_
            refine va_get (D := (dC, dI)) (ci := 9) (v := .ref a1) (C := RX8) (T := TX8) (N := 4) hx hb hts (fun w h => List.mem_cons_of_mem _ (uG_X8 w h)) hown hK hP 0 rfl rfl 0 (by decide) (hts _ (List.mem_cons_of_mem _ kw_349)) (fun _ h9 => h9) rfl dX8_copy_61 ?_
            refine lv_iload_n hx hb dX8_copy_64 rfl (lv_at hl 2 rfl) ?_
            refine lv_iload_n hx hb dX8_copy_65 rfl (lv_at hl 3 rfl) ?_
            refine va_copyl (n := (nI w1)) (dp := (nI t1)) (sp := (nI f1)) hx hb (hml.trans hl.1.symm) hown (hts _ (List.mem_cons_of_mem _ kw_1364)) (hts _ (List.mem_cons_of_mem _ kw_820)) (hts _ (List.mem_cons_of_mem _ kw_819)) (hts _ (List.mem_cons_of_mem _ kw_202)) hK hP hD hS 1 1 2 2 rfl rfl rfl rfl rfl (nI_pos (n := f1) (by omega)) (nI_pos (n := t1) (by omega)) (nI_pos (n := w1) (by omega)) (by rw [show (nI f1).toNatClampNeg = f1 from nI_clamp (n := f1) (by omega), show (nI w1).toNatClampNeg = w1 from nI_clamp (n := w1) (by omega)]; omega) (by rw [show (nI t1).toNatClampNeg = t1 from nI_clamp (n := t1) (by omega), show (nI w1).toNatClampNeg = w1 from nI_clamp (n := w1) (by omega)]; omega) (fun _ _ => rfl) (Nat.le_of_ble_eq_true rfl) (Nat.le_of_ble_eq_true rfl) dX8_copy_66 (fun H locs hP hD hS => ?_)
            rw [show (nI f1).toNatClampNeg = f1 from nI_clamp (n := f1) (by omega), show (nI t1).toNatClampNeg = t1 from nI_clamp (n := t1) (by omega), show (nI w1).toNatClampNeg = w1 from nI_clamp (n := w1) (by omega)] at hP hD
            have hP : va_P (dC, dI) vwCl [(h0, .inr (9, [.ref a1, .ref a2, wo, wp])), (a1, .inl (cJ, capN n (max f1 t1 + w1), .inr (.inl (va_cpy vf vf f1 t1 w1)))), (a2, .inl (cB, capN n (max f1 t1 + w1), .inl bf))] H := hP
            have hD : va_D A [(h0, .inr (9, [.ref a1, .ref a2, wo, wp])), (a1, .inl (cJ, capN n (max f1 t1 + w1), .inr (.inl (va_cpy vf vf f1 t1 w1)))), (a2, .inl (cB, capN n (max f1 t1 + w1), .inl bf))] := hD
            refine lv_aload_n hx hb dX8_copy_69 rfl (lv_at hl 0 rfl) ?_
            refine va_get (D := (dC, dI)) (ci := 9) (v := .ref a2) (C := RX8) (T := TX8) (N := 4) hx hb hts (fun w h => List.mem_cons_of_mem _ (uG_X8 w h)) hown hK hP 0 rfl rfl 1 (by decide) (hts _ (List.mem_cons_of_mem _ kw_350)) (fun _ h9 => h9) rfl dX8_copy_70 ?_
            refine lv_iload_n hx hb dX8_copy_73 rfl (lv_at hl 1 rfl) ?_
            refine lv_aload_n hx hb dX8_copy_74 rfl (lv_at hl 0 rfl) ?_
            refine va_get (D := (dC, dI)) (ci := 9) (v := .ref a2) (C := RX8) (T := TX8) (N := 4) hx hb hts (fun w h => List.mem_cons_of_mem _ (uG_X8 w h)) hown hK hP 0 rfl rfl 1 (by decide) (hts _ (List.mem_cons_of_mem _ kw_350)) (fun _ h9 => h9) rfl dX8_copy_75 ?_
            refine lv_iload_n hx hb dX8_copy_78 rfl (lv_at hl 2 rfl) ?_
            refine lv_iload_n hx hb dX8_copy_79 rfl (lv_at hl 3 rfl) ?_
            refine va_copyi (n := (nI w1)) (dp := (nI t1)) (sp := (nI f1)) hx hb (hml.trans hl.1.symm) hown (hts _ (List.mem_cons_of_mem _ kw_1364)) (hts _ (List.mem_cons_of_mem _ kw_820)) (hts _ (List.mem_cons_of_mem _ kw_819)) (hts _ (List.mem_cons_of_mem _ kw_202)) hK hP hD hS 2 2 0 0 rfl rfl rfl rfl rfl (nI_pos (n := f1) (by omega)) (nI_pos (n := t1) (by omega)) (nI_pos (n := w1) (by omega)) (by rw [show (nI f1).toNatClampNeg = f1 from nI_clamp (n := f1) (by omega), show (nI w1).toNatClampNeg = w1 from nI_clamp (n := w1) (by omega)]; omega) (by rw [show (nI t1).toNatClampNeg = t1 from nI_clamp (n := t1) (by omega), show (nI w1).toNatClampNeg = w1 from nI_clamp (n := w1) (by omega)]; omega) (fun i9 _ => hy _) (Nat.le_of_ble_eq_true rfl) (Nat.le_of_ble_eq_true rfl) dX8_copy_80 (fun H locs hP hD hS => ?_)
            rw [show (nI f1).toNatClampNeg = f1 from nI_clamp (n := f1) (by omega), show (nI t1).toNatClampNeg = t1 from nI_clamp (n := t1) (by omega), show (nI w1).toNatClampNeg = w1 from nI_clamp (n := w1) (by omega)] at hP hD
            have hP : va_P (dC, dI) vwCl [(h0, .inr (9, [.ref a1, .ref a2, wo, wp])), (a1, .inl (cJ, capN n (max f1 t1 + w1), .inr (.inl (va_cpy vf vf f1 t1 w1)))), (a2, .inl (cB, capN n (max f1 t1 + w1), .inl (va_cpy bf bf f1 t1 w1)))] H := hP
            have hD : va_D A [(h0, .inr (9, [.ref a1, .ref a2, wo, wp])), (a1, .inl (cJ, capN n (max f1 t1 + w1), .inr (.inl (va_cpy vf vf f1 t1 w1)))), (a2, .inl (cB, capN n (max f1 t1 + w1), .inl (va_cpy bf bf f1 t1 w1)))] := hD
            have hP9 := hP.sub (ws' := [(h0, .inr (9, [.ref a1, .ref a2, wo, wp])), (a1, .inl (cJ, capN n (max f1 t1 + w1), .inr (.inl (va_cpy vf vf f1 t1 w1)))), (a2, .inl (cB, capN n (max f1 t1 + w1), .inl (va_cpy bf bf f1 t1 w1)))]) [0, 1, 2] rfl
            have hD9 := hD.sub (ws' := [(h0, .inr (9, [.ref a1, .ref a2, wo, wp])), (a1, .inl (cJ, capN n (max f1 t1 + w1), .inr (.inl (va_cpy vf vf f1 t1 w1)))), (a2, .inl (cB, capN n (max f1 t1 + w1), .inl (va_cpy bf bf f1 t1 w1)))]) [0, 1, 2] (by decide) rfl
            have hK9 := hK.sub (tys' := [(cB, .byte), (cI, .int), (cJ, .long), (cZ, .boolean)]) [0, 1, 2, 3] rfl
            refine W.widen (k := (capN n (max f1 t1 + w1) - n) / 16) (n := 4 * (capN n (max f1 t1 + w1) - n)) (by omega) (by omega) ?_
            exact W.vret hx hb hr (fun t_ ht hW => ⟨⟨(), rfl, trivial, a1, a2, by rw [ht]; exact hP9, va_K.moved hW.alike hK9, hD9⟩, hS.F ht⟩) hS.2.2 dX8_copy_83
