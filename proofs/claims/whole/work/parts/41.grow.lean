/-! the capacity behind a reserve -/
def capN (n c : Nat) : Nat := if c ≤ n then n else 2 * c
theorem capN_le (n c : Nat) : n ≤ capN n c ∧ c ≤ capN n c := by unfold capN; split <;> omega
abbrev cs_t_X8_reserve_a (cB cI cJ cZ : ClassId) (h0 hV hB n : Nat) (vf : Nat → Int64) (bf : Nat → Int32) (wo wp : Value) (c1 : Nat) : va_W := [(h0, .inr (9, [.ref hV, .ref hB, wo, wp])), (hV, .inl (cJ, n, .inr (.inl vf))), (hB, .inl (cB, n, .inl bf))]
abbrev pc_t_X8_reserve_a (dC : Nat → ClassId) (dI : Nat → Nat → Nat) (sz : Nat) (cB cI cJ cZ : ClassId) (h0 hV hB n : Nat) (vf : Nat → Int64) (bf : Nat → Int32) (wo wp : Value) (c1 : Nat) : Array Value → State → Prop := va_Pc [.ref h0, .int (nI c1)] (fun U => U.heap.size = sz ∧ va_P (dC, dI) vwCl [(h0, .inr (9, [.ref hV, .ref hB, wo, wp])), (hV, .inl (cJ, n, .inr (.inl vf))), (hB, .inl (cB, n, .inl bf))] U.heap ∧ va_K (dC, dI) vwCl [(cB, .byte), (cI, .int), (cJ, .long), (cZ, .boolean)] U ∧ va_D (fun _ => True) [(h0, .inr (9, [.ref hV, .ref hB, wo, wp])), (hV, .inl (cJ, n, .inr (.inl vf))), (hB, .inl (cB, n, .inl bf))])
abbrev qc_t_X8_reserve_a (dC : Nat → ClassId) (dI : Nat → Nat → Nat) (cB cI cJ cZ : ClassId) (h0 hV hB n : Nat) (vf : Nat → Int64) (bf : Nat → Int32) (wo wp : Value) (c1 : Nat) (A : Nat → Prop) : Array Value → State → Outcome → State → Prop := va_Qv (fun (u : Unit) => match u with | _ => True) (fun (u : Unit) t_ => match u with | _ => ∃ (a1 a2 : Nat), va_P (dC, dI) vwCl [(h0, .inr (9, [.ref a1, .ref a2, wo, wp])), (a1, .inl (cJ, capN n c1, .inr (.inl vf))), (a2, .inl (cB, capN n c1, .inl bf))] t_.heap ∧ va_K (dC, dI) vwCl [(cB, .byte), (cI, .int), (cJ, .long), (cZ, .boolean)] t_ ∧ va_D A [(h0, .inr (9, [.ref a1, .ref a2, wo, wp])), (a1, .inl (cJ, capN n c1, .inr (.inl vf))), (a2, .inl (cB, capN n c1, .inl bf))]) A
set_option maxHeartbeats 4000000 in
set_option maxRecDepth 100000 in
theorem t_X8_reserve_a (l : Launch) (dC : Nat → ClassId) (dI : Nat → Nat → Nat) (sz : Nat) (cB cI cJ cZ : ClassId) (h0 hV hB n : Nat) (vf : Nat → Int64) (bf : Nat → Int32) (wo wp : Value) (c1 : Nat) (hn : n < 500000) (hzv : ∀ j, n ≤ j → vf j = 0) (hzb : ∀ j, n ≤ j → bf j = 0) (hy : sb_Fit bf) (h64 : 64 ≤ n) (hc1 : c1 < 200000) (hc : c1 ≤ n) : Met l yX8_reserve (wsOf yX8_reserve cX8_reserve 2 none) ({ frames := 3, cells := (capN n c1 - n) / 16, slots := 4 * (capN n c1 - n), locals := 180 }) (pc_t_X8_reserve_a dC dI sz cB cI cJ cZ h0 hV hB n vf bf wo wp c1) (qc_t_X8_reserve_a dC dI cB cI cJ cZ h0 hV hB n vf bf wo wp c1 (va_A (cs_t_X8_reserve_a cB cI cJ cZ h0 hV hB n vf bf wo wp c1) sz)) ((capN n c1 - n) / 16) (4 * (capN n c1 - n)) (va_A (cs_t_X8_reserve_a cB cI cJ cZ h0 hV hB n vf bf wo wp c1) sz) := by
  refine Met.ofW (cc := cX8_reserve) (maxL := 2) (ret := none) (by decide) rfl ?_
  intro p e s m args below meth c s₁ B hml hv
  obtain ⟨rfl, hsz, hP, hK, hD0⟩ := hv
  have hx := B.exec
  have hb := B.bytes
  have hr := B.returns
  have hts := atoms_spec (ws := (wsOf yX8_reserve cX8_reserve 2 none)) B.pre
  have hown : s.vm.findClass RX8 = some m.cls := findClass_of_methodNamed B.named
  have hlocks := B.notSynchronized
  subst hsz
  have hD := hD0.self (sz := s.heap.size)
  generalize hAe : va_A (cs_t_X8_reserve_a cB cI cJ cZ h0 hV hB n vf bf wo wp c1) s.heap.size = A at hD ⊢
  have hA : ∀ q : Nat, s.heap.size ≤ q → A q := fun q h => by rw [← hAe]; exact Or.inr h
  have hS : va_S A s.heap s.heap [] := va_S.rf
  have hP : va_P (dC, dI) vwCl [(h0, .inr (9, [.ref hV, .ref hB, wo, wp])), (hV, .inl (cJ, n, .inr (.inl vf))), (hB, .inl (cB, n, .inl bf))] s.heap := hP
  have hl := lv_entry ([.ref h0, .int (nI c1)]) (n := 2) (Nat.le_of_ble_eq_true rfl)
  rw [lg_entry_eq]
  generalize (lg_sl ([.ref h0, .int (nI c1)]) ++ List.replicate (2 - (lg_sl ([.ref h0, .int (nI c1)])).length) Slot.unset).toArray = ls at hl ⊢
  have hl : lv_has ls 2 [(0, .ref h0), (1, .int (nI c1))] := hl
  have ec : capN n c1 = n := if_pos hc
  refine lv_iload_n hx hb dX8_reserve_0 rfl (lv_at hl 1 rfl) ?_
  refine lv_aload_n hx hb dX8_reserve_1 rfl (lv_at hl 0 rfl) ?_
  refine va_get (D := (dC, dI)) (ci := 9) (v := .ref hV) (C := RX8) (T := TX8) (N := 4) hx hb hts (fun w h => List.mem_cons_of_mem _ (uG_X8 w h)) hown hK hP 0 rfl rfl 0 (by decide) (hts _ (List.mem_cons_of_mem _ kw_349)) (fun _ h9 => h9) rfl dX8_reserve_2 ?_
  refine va_alen (v := nI n) hx hb hK hP 1 2 rfl rfl rfl dX8_reserve_5 ?_
  refine lv_icmp_le (tgt := 37) hx hb dX8_reserve_6 (by decide) (fun c_1 => ?_) (fun c_1 => ?_)
  · skip
    have c_1 : c1 ≤ n := (nI_leI (a := c1) (b := n) (by omega) (by omega)).mp c_1
    rw [← ec] at hP hD
    have hP : va_P (dC, dI) vwCl [(h0, .inr (9, [.ref hV, .ref hB, wo, wp])), (hV, .inl (cJ, capN n c1, .inr (.inl vf))), (hB, .inl (cB, capN n c1, .inl bf))] s.heap := hP
    have hD : va_D A [(h0, .inr (9, [.ref hV, .ref hB, wo, wp])), (hV, .inl (cJ, capN n c1, .inr (.inl vf))), (hB, .inl (cB, capN n c1, .inl bf))] := hD
    have hP9 := hP.sub (ws' := [(h0, .inr (9, [.ref hV, .ref hB, wo, wp])), (hV, .inl (cJ, capN n c1, .inr (.inl vf))), (hB, .inl (cB, capN n c1, .inl bf))]) [0, 1, 2] rfl
    have hD9 := hD.sub (ws' := [(h0, .inr (9, [.ref hV, .ref hB, wo, wp])), (hV, .inl (cJ, capN n c1, .inr (.inl vf))), (hB, .inl (cB, capN n c1, .inl bf))]) [0, 1, 2] (by decide) rfl
    have hK9 := hK.sub (tys' := [(cB, .byte), (cI, .int), (cJ, .long), (cZ, .boolean)]) [0, 1, 2, 3] rfl
    refine W.widen (k := (capN n c1 - n) / 16) (n := 4 * (capN n c1 - n)) (by omega) (by omega) ?_
    exact W.vret hx hb hr (fun t_ ht hW => ⟨⟨(), rfl, trivial, hV, hB, by rw [ht]; exact hP9, va_K.moved hW.alike hK9, hD9⟩, hS.F ht⟩) hS.2.2 dX8_reserve_37
  · skip
    have c_1 : ¬ (c1 ≤ n) := fun h => c_1 ((nI_leI (a := c1) (b := n) (by omega) (by omega)).mpr h)
    exact absurd hc c_1
abbrev cs_t_X8_reserve_b (cB cI cJ cZ : ClassId) (h0 hV hB n : Nat) (vf : Nat → Int64) (bf : Nat → Int32) (wo wp : Value) (c1 : Nat) : va_W := [(h0, .inr (9, [.ref hV, .ref hB, wo, wp])), (hV, .inl (cJ, n, .inr (.inl vf))), (hB, .inl (cB, n, .inl bf))]
abbrev pc_t_X8_reserve_b (dC : Nat → ClassId) (dI : Nat → Nat → Nat) (sz : Nat) (cB cI cJ cZ : ClassId) (h0 hV hB n : Nat) (vf : Nat → Int64) (bf : Nat → Int32) (wo wp : Value) (c1 : Nat) : Array Value → State → Prop := va_Pc [.ref h0, .int (nI c1)] (fun U => U.heap.size = sz ∧ va_P (dC, dI) vwCl [(h0, .inr (9, [.ref hV, .ref hB, wo, wp])), (hV, .inl (cJ, n, .inr (.inl vf))), (hB, .inl (cB, n, .inl bf))] U.heap ∧ va_K (dC, dI) vwCl [(cB, .byte), (cI, .int), (cJ, .long), (cZ, .boolean)] U ∧ va_D (fun _ => True) [(h0, .inr (9, [.ref hV, .ref hB, wo, wp])), (hV, .inl (cJ, n, .inr (.inl vf))), (hB, .inl (cB, n, .inl bf))])
abbrev qc_t_X8_reserve_b (dC : Nat → ClassId) (dI : Nat → Nat → Nat) (cB cI cJ cZ : ClassId) (h0 hV hB n : Nat) (vf : Nat → Int64) (bf : Nat → Int32) (wo wp : Value) (c1 : Nat) (A : Nat → Prop) : Array Value → State → Outcome → State → Prop := va_Qv (fun (u : Unit) => match u with | _ => True) (fun (u : Unit) t_ => match u with | _ => ∃ (a1 a2 : Nat), va_P (dC, dI) vwCl [(h0, .inr (9, [.ref a1, .ref a2, wo, wp])), (a1, .inl (cJ, capN n c1, .inr (.inl vf))), (a2, .inl (cB, capN n c1, .inl bf))] t_.heap ∧ va_K (dC, dI) vwCl [(cB, .byte), (cI, .int), (cJ, .long), (cZ, .boolean)] t_ ∧ va_D A [(h0, .inr (9, [.ref a1, .ref a2, wo, wp])), (a1, .inl (cJ, capN n c1, .inr (.inl vf))), (a2, .inl (cB, capN n c1, .inl bf))]) A
set_option maxHeartbeats 4000000 in
set_option maxRecDepth 100000 in
theorem t_X8_reserve_b (l : Launch) (dC : Nat → ClassId) (dI : Nat → Nat → Nat) (sz : Nat) (cB cI cJ cZ : ClassId) (h0 hV hB n : Nat) (vf : Nat → Int64) (bf : Nat → Int32) (wo wp : Value) (c1 : Nat) (hn : n < 500000) (hzv : ∀ j, n ≤ j → vf j = 0) (hzb : ∀ j, n ≤ j → bf j = 0) (hy : sb_Fit bf) (h64 : 64 ≤ n) (hc1 : c1 < 200000) (hc : ¬ c1 ≤ n) : Met l yX8_reserve (wsOf yX8_reserve cX8_reserve 2 none) ({ frames := 3, cells := (capN n c1 - n) / 16, slots := 4 * (capN n c1 - n), locals := 180 }) (pc_t_X8_reserve_b dC dI sz cB cI cJ cZ h0 hV hB n vf bf wo wp c1) (qc_t_X8_reserve_b dC dI cB cI cJ cZ h0 hV hB n vf bf wo wp c1 (va_A (cs_t_X8_reserve_b cB cI cJ cZ h0 hV hB n vf bf wo wp c1) sz)) ((capN n c1 - n) / 16) (4 * (capN n c1 - n)) (va_A (cs_t_X8_reserve_b cB cI cJ cZ h0 hV hB n vf bf wo wp c1) sz) := by
  refine Met.ofW (cc := cX8_reserve) (maxL := 2) (ret := none) (by decide) rfl ?_
  intro p e s m args below meth c s₁ B hml hv
  obtain ⟨rfl, hsz, hP, hK, hD0⟩ := hv
  have hx := B.exec
  have hb := B.bytes
  have hr := B.returns
  have hts := atoms_spec (ws := (wsOf yX8_reserve cX8_reserve 2 none)) B.pre
  have hown : s.vm.findClass RX8 = some m.cls := findClass_of_methodNamed B.named
  have hlocks := B.notSynchronized
  subst hsz
  have hD := hD0.self (sz := s.heap.size)
  generalize hAe : va_A (cs_t_X8_reserve_b cB cI cJ cZ h0 hV hB n vf bf wo wp c1) s.heap.size = A at hD ⊢
  have hA : ∀ q : Nat, s.heap.size ≤ q → A q := fun q h => by rw [← hAe]; exact Or.inr h
  have hS : va_S A s.heap s.heap [] := va_S.rf
  have hP : va_P (dC, dI) vwCl [(h0, .inr (9, [.ref hV, .ref hB, wo, wp])), (hV, .inl (cJ, n, .inr (.inl vf))), (hB, .inl (cB, n, .inl bf))] s.heap := hP
  have hl := lv_entry ([.ref h0, .int (nI c1)]) (n := 2) (Nat.le_of_ble_eq_true rfl)
  rw [lg_entry_eq]
  generalize (lg_sl ([.ref h0, .int (nI c1)]) ++ List.replicate (2 - (lg_sl ([.ref h0, .int (nI c1)])).length) Slot.unset).toArray = ls at hl ⊢
  have hl : lv_has ls 2 [(0, .ref h0), (1, .int (nI c1))] := hl
  have ec : capN n c1 = 2 * c1 := if_neg hc
  refine lv_iload_n hx hb dX8_reserve_0 rfl (lv_at hl 1 rfl) ?_
  refine lv_aload_n hx hb dX8_reserve_1 rfl (lv_at hl 0 rfl) ?_
  refine va_get (D := (dC, dI)) (ci := 9) (v := .ref hV) (C := RX8) (T := TX8) (N := 4) hx hb hts (fun w h => List.mem_cons_of_mem _ (uG_X8 w h)) hown hK hP 0 rfl rfl 0 (by decide) (hts _ (List.mem_cons_of_mem _ kw_349)) (fun _ h9 => h9) rfl dX8_reserve_2 ?_
  refine va_alen (v := nI n) hx hb hK hP 1 2 rfl rfl rfl dX8_reserve_5 ?_
  refine lv_icmp_le (tgt := 37) hx hb dX8_reserve_6 (by decide) (fun c_1 => ?_) (fun c_1 => ?_)
  · skip
    have c_1 : c1 ≤ n := (nI_leI (a := c1) (b := n) (by omega) (by omega)).mp c_1
    exact absurd c_1 hc
  · skip
    have c_1 : ¬ (c1 ≤ n) := fun h => c_1 ((nI_leI (a := c1) (b := n) (by omega) (by omega)).mpr h)
    refine lv_aload_n hx hb dX8_reserve_9 rfl (lv_at hl 0 rfl) ?_
    refine lv_aload_n hx hb dX8_reserve_10 rfl (lv_at hl 0 rfl) ?_
    refine va_get (D := (dC, dI)) (ci := 9) (v := .ref hV) (C := RX8) (T := TX8) (N := 4) hx hb hts (fun w h => List.mem_cons_of_mem _ (uG_X8 w h)) hown hK hP 0 rfl rfl 0 (by decide) (hts _ (List.mem_cons_of_mem _ kw_349)) (fun _ h9 => h9) rfl dX8_reserve_11 ?_
    refine lv_iconst (v := 2) hx hb dX8_reserve_14 (by decide) ?_
    refine lv_iload_n hx hb dX8_reserve_15 rfl (lv_at hl 1 rfl) ?_
    refine lv_imul hx hb dX8_reserve_16 ?_
    refine lv_topi (fun x_2 ex_2 => ?_)
    have ex_2 : x_2 = nI (2 * c1) := ex_2.trans (pk_mul 2 c1)
    subst ex_2
    have hPc := hP.sub (ws' := [(hV, .inl (cJ, n, .inr (.inl vf)))]) [1] rfl
    have hDc := hD.sub (ws' := [(hV, .inl (cJ, n, .inr (.inl vf)))]) [1] (by decide) rfl
    have hKc := hK.sub (tys' := [(cB, .byte), (cI, .int), (cJ, .long), (cZ, .boolean)]) [0, 1, 2, 3] rfl
    have hFc := va_free (wc := [(hV, .inl (cJ, n, .inr (.inl vf)))]) hD hS hA [1] rfl
    refine va_callr (va_runS (As := [.ref hV, .int (nI (2 * c1))]) (rest := [.ref h0]) ⟨hx, hb, hml, hown, hts⟩ (t_J7_copyOf_c38d5 l dC dI s.heap.size cB cI cJ cZ hV n (2 * c1) vf (by omega) (by omega) hzv) ⟨callB_of 2 hts (gd_all (in_I kc_J7_copyOf_c38d5)) rfl rfl rfl (hts _ (List.mem_cons_of_mem _ kw_201)) (hts _ (List.mem_cons_of_mem _ kw_1342)) (by decide +kernel) ⟨Nat.le_of_ble_eq_true rfl, Nat.le_of_ble_eq_true rfl⟩, hts _ (List.mem_cons_of_mem _ kw_1343)⟩ ⟨fun a U g mk q => by obtain ⟨q0, q1, qP, qK, qD⟩ := q; exact ⟨q0, q1, qP, va_K.moved (u := U) (U := U.calling g mk a) (Vm.Alike.refl U.vm) qK, qD⟩, fun U hU hW => ⟨rfl, by rw [hU], by rw [hU]; exact hPc, va_K.moved hW.alike hKc, hDc.weaken (fun _ _ _ _ => trivial)⟩⟩ rfl rfl hl.1 rfl (lv_room (Nat.le_of_ble_eq_true rfl)) dX8_reserve_17 ⟨by show 0 + 1 ≤ (capN n c1 - n) / 16; omega, by show 0 + 2 * c1 ≤ 4 * (capN n c1 - n); omega⟩) hS (fun q _ h => hFc q h) hFc (fun u ra_3 t_ H1 locs ht hvm hw hB hz1 hk1 hS => ?_)
    obtain ⟨hP1, hK1, hD1⟩ := hB
    rw [ht] at hP1
    have hK1 := va_K.moved hvm.symm hK1
    obtain ⟨hP, hD⟩ := va_join (wr := [(h0, .inr (9, [.ref hV, .ref hB, wo, wp])), (hB, .inl (cB, n, .inl bf))]) (w1 := [(hV, .inl (cJ, n, .inr (.inl vf))), (ra_3, .inl (cJ, 2 * c1, .inr (.inl vf)))]) hP hD [1] [0, 2] rfl rfl (by decide) (by decide) hk1 hFc hP1 hD1
    have hK := (hK.sub (tys' := []) [] rfl).app hK1
    generalize H1 = H at hP hS ⊢
    have hP : va_P (dC, dI) vwCl [(h0, .inr (9, [.ref hV, .ref hB, wo, wp])), (hB, .inl (cB, n, .inl bf)), (hV, .inl (cJ, n, .inr (.inl vf))), (ra_3, .inl (cJ, 2 * c1, .inr (.inl vf)))] H := hP
    have hD : va_D A [(h0, .inr (9, [.ref hV, .ref hB, wo, wp])), (hB, .inl (cB, n, .inl bf)), (hV, .inl (cJ, n, .inr (.inl vf))), (ra_3, .inl (cJ, 2 * c1, .inr (.inl vf)))] := hD
    have hK : va_K (dC, dI) vwCl [(cB, .byte), (cI, .int), (cJ, .long), (cZ, .boolean)] s := hK
    refine va_put (D := (dC, dI)) (ci := 9) (v := .ref ra_3) (ty := .array .long) (C := RX8) (T := TX8) (N := 4) hx hb hts (fun w h => List.mem_cons_of_mem _ (uG_X8 w h)) tyX8 tyX8_ok nmX8 hown hK hP hD hS 0 rfl rfl 0 (by decide) (hts _ (List.mem_cons_of_mem _ kw_349)) (fun _ h9 => h9) rfl (by decide +kernel) rfl rfl (Nat.le_of_ble_eq_true rfl) dX8_reserve_20 (fun H locs hP hD hS => ?_)
    have hP : va_P (dC, dI) vwCl [(h0, .inr (9, [.ref ra_3, .ref hB, wo, wp])), (hB, .inl (cB, n, .inl bf)), (hV, .inl (cJ, n, .inr (.inl vf))), (ra_3, .inl (cJ, 2 * c1, .inr (.inl vf)))] H := hP
    have hD : va_D A [(h0, .inr (9, [.ref ra_3, .ref hB, wo, wp])), (hB, .inl (cB, n, .inl bf)), (hV, .inl (cJ, n, .inr (.inl vf))), (ra_3, .inl (cJ, 2 * c1, .inr (.inl vf)))] := hD
    refine lv_aload_n hx hb dX8_reserve_23 rfl (lv_at hl 0 rfl) ?_
    refine lv_aload_n hx hb dX8_reserve_24 rfl (lv_at hl 0 rfl) ?_
    refine va_get (D := (dC, dI)) (ci := 9) (v := .ref hB) (C := RX8) (T := TX8) (N := 4) hx hb hts (fun w h => List.mem_cons_of_mem _ (uG_X8 w h)) hown hK hP 0 rfl rfl 1 (by decide) (hts _ (List.mem_cons_of_mem _ kw_350)) (fun _ h9 => h9) rfl dX8_reserve_25 ?_
    refine lv_iconst (v := 2) hx hb dX8_reserve_28 (by decide) ?_
    refine lv_iload_n hx hb dX8_reserve_29 rfl (lv_at hl 1 rfl) ?_
    refine lv_imul hx hb dX8_reserve_30 ?_
    refine lv_topi (fun x_4 ex_4 => ?_)
    have ex_4 : x_4 = nI (2 * c1) := ex_4.trans (pk_mul 2 c1)
    subst ex_4
    have hPc := hP.sub (ws' := [(hB, .inl (cB, n, .inl bf))]) [1] rfl
    have hDc := hD.sub (ws' := [(hB, .inl (cB, n, .inl bf))]) [1] (by decide) rfl
    have hKc := hK.sub (tys' := [(cB, .byte), (cI, .int), (cJ, .long), (cZ, .boolean)]) [0, 1, 2, 3] rfl
    have hFc := va_free (wc := [(hB, .inl (cB, n, .inl bf))]) hD hS hA [1] rfl
    refine va_callr (va_runS (As := [.ref hB, .int (nI (2 * c1))]) (rest := [.ref h0]) ⟨hx, hb, hml, hown, hts⟩ (t_J7_copyOf_9075b l dC dI H.size cB cI cJ cZ hB n (2 * c1) bf (by omega) (by omega) hzb hy) ⟨callB_of 2 hts (gd_all (in_I kc_J7_copyOf_9075b)) rfl rfl rfl (hts _ (List.mem_cons_of_mem _ kw_201)) (hts _ (List.mem_cons_of_mem _ kw_1352)) (by decide +kernel) ⟨Nat.le_of_ble_eq_true rfl, Nat.le_of_ble_eq_true rfl⟩, hts _ (List.mem_cons_of_mem _ kw_1353)⟩ ⟨fun a U g mk q => by obtain ⟨q0, q1, qP, qK, qD⟩ := q; exact ⟨q0, q1, qP, va_K.moved (u := U) (U := U.calling g mk a) (Vm.Alike.refl U.vm) qK, qD⟩, fun U hU hW => ⟨rfl, by rw [hU], by rw [hU]; exact hPc, va_K.moved hW.alike hKc, hDc.weaken (fun _ _ _ _ => trivial)⟩⟩ rfl rfl hl.1 rfl (lv_room (Nat.le_of_ble_eq_true rfl)) dX8_reserve_31 ⟨by show 1 + 1 ≤ (capN n c1 - n) / 16; omega, by show (0 + 2 * c1) + 2 * c1 ≤ 4 * (capN n c1 - n); omega⟩) hS (fun q _ h => hFc q h) hFc (fun u ra_5 t_ H1 locs ht hvm hw hB hz1 hk1 hS => ?_)
    obtain ⟨hP1, hK1, hD1⟩ := hB
    rw [ht] at hP1
    have hK1 := va_K.moved hvm.symm hK1
    obtain ⟨hP, hD⟩ := va_join (wr := [(h0, .inr (9, [.ref ra_3, .ref hB, wo, wp])), (hV, .inl (cJ, n, .inr (.inl vf))), (ra_3, .inl (cJ, 2 * c1, .inr (.inl vf)))]) (w1 := [(hB, .inl (cB, n, .inl bf)), (ra_5, .inl (cB, 2 * c1, .inl bf))]) hP hD [1] [0, 2, 3] rfl rfl (by decide) (by decide) hk1 hFc hP1 hD1
    have hK := (hK.sub (tys' := []) [] rfl).app hK1
    generalize H1 = H at hP hS ⊢
    have hP : va_P (dC, dI) vwCl [(h0, .inr (9, [.ref ra_3, .ref hB, wo, wp])), (hV, .inl (cJ, n, .inr (.inl vf))), (ra_3, .inl (cJ, 2 * c1, .inr (.inl vf))), (hB, .inl (cB, n, .inl bf)), (ra_5, .inl (cB, 2 * c1, .inl bf))] H := hP
    have hD : va_D A [(h0, .inr (9, [.ref ra_3, .ref hB, wo, wp])), (hV, .inl (cJ, n, .inr (.inl vf))), (ra_3, .inl (cJ, 2 * c1, .inr (.inl vf))), (hB, .inl (cB, n, .inl bf)), (ra_5, .inl (cB, 2 * c1, .inl bf))] := hD
    have hK : va_K (dC, dI) vwCl [(cB, .byte), (cI, .int), (cJ, .long), (cZ, .boolean)] s := hK
    refine va_put (D := (dC, dI)) (ci := 9) (v := .ref ra_5) (ty := .array .byte) (C := RX8) (T := TX8) (N := 4) hx hb hts (fun w h => List.mem_cons_of_mem _ (uG_X8 w h)) tyX8 tyX8_ok nmX8 hown hK hP hD hS 0 rfl rfl 1 (by decide) (hts _ (List.mem_cons_of_mem _ kw_350)) (fun _ h9 => h9) rfl (by decide +kernel) rfl rfl (Nat.le_of_ble_eq_true rfl) dX8_reserve_34 (fun H locs hP hD hS => ?_)
    have hP : va_P (dC, dI) vwCl [(h0, .inr (9, [.ref ra_3, .ref ra_5, wo, wp])), (hV, .inl (cJ, n, .inr (.inl vf))), (ra_3, .inl (cJ, 2 * c1, .inr (.inl vf))), (hB, .inl (cB, n, .inl bf)), (ra_5, .inl (cB, 2 * c1, .inl bf))] H := hP
    have hD : va_D A [(h0, .inr (9, [.ref ra_3, .ref ra_5, wo, wp])), (hV, .inl (cJ, n, .inr (.inl vf))), (ra_3, .inl (cJ, 2 * c1, .inr (.inl vf))), (hB, .inl (cB, n, .inl bf)), (ra_5, .inl (cB, 2 * c1, .inl bf))] := hD
    rw [← ec] at hP hD
    have hP : va_P (dC, dI) vwCl [(h0, .inr (9, [.ref ra_3, .ref ra_5, wo, wp])), (hV, .inl (cJ, n, .inr (.inl vf))), (ra_3, .inl (cJ, capN n c1, .inr (.inl vf))), (hB, .inl (cB, n, .inl bf)), (ra_5, .inl (cB, capN n c1, .inl bf))] H := hP
    have hD : va_D A [(h0, .inr (9, [.ref ra_3, .ref ra_5, wo, wp])), (hV, .inl (cJ, n, .inr (.inl vf))), (ra_3, .inl (cJ, capN n c1, .inr (.inl vf))), (hB, .inl (cB, n, .inl bf)), (ra_5, .inl (cB, capN n c1, .inl bf))] := hD
    have hP9 := hP.sub (ws' := [(h0, .inr (9, [.ref ra_3, .ref ra_5, wo, wp])), (ra_3, .inl (cJ, capN n c1, .inr (.inl vf))), (ra_5, .inl (cB, capN n c1, .inl bf))]) [0, 2, 4] rfl
    have hD9 := hD.sub (ws' := [(h0, .inr (9, [.ref ra_3, .ref ra_5, wo, wp])), (ra_3, .inl (cJ, capN n c1, .inr (.inl vf))), (ra_5, .inl (cB, capN n c1, .inl bf))]) [0, 2, 4] (by decide) rfl
    have hK9 := hK.sub (tys' := [(cB, .byte), (cI, .int), (cJ, .long), (cZ, .boolean)]) [0, 1, 2, 3] rfl
    refine W.widen (k := (capN n c1 - n) / 16) (n := 4 * (capN n c1 - n)) (by omega) (by omega) ?_
    exact W.vret hx hb hr (fun t_ ht hW => ⟨⟨(), rfl, trivial, ra_3, ra_5, by rw [ht]; exact hP9, va_K.moved hW.alike hK9, hD9⟩, hS.F ht⟩) hS.2.2 dX8_reserve_37
theorem t_X8_reserve (l : Launch) (dC : Nat → ClassId) (dI : Nat → Nat → Nat) (sz : Nat) (cB cI cJ cZ : ClassId) (h0 hV hB n : Nat) (vf : Nat → Int64) (bf : Nat → Int32) (wo wp : Value) (c1 : Nat) (hn : n < 500000) (hzv : ∀ j, n ≤ j → vf j = 0) (hzb : ∀ j, n ≤ j → bf j = 0) (hy : sb_Fit bf) (h64 : 64 ≤ n) (hc1 : c1 < 200000) : Met l yX8_reserve (wsOf yX8_reserve cX8_reserve 2 none) ({ frames := 3, cells := (capN n c1 - n) / 16, slots := 4 * (capN n c1 - n), locals := 180 }) (pc_t_X8_reserve_a dC dI sz cB cI cJ cZ h0 hV hB n vf bf wo wp c1) (qc_t_X8_reserve_a dC dI cB cI cJ cZ h0 hV hB n vf bf wo wp c1 (va_A (cs_t_X8_reserve_a cB cI cJ cZ h0 hV hB n vf bf wo wp c1) sz)) ((capN n c1 - n) / 16) (4 * (capN n c1 - n)) (va_A (cs_t_X8_reserve_a cB cI cJ cZ h0 hV hB n vf bf wo wp c1) sz) := by
  by_cases hc : c1 ≤ n
  · exact t_X8_reserve_a l dC dI sz cB cI cJ cZ h0 hV hB n vf bf wo wp c1 hn hzv hzb hy h64 hc1 hc
  · exact t_X8_reserve_b l dC dI sz cB cI cJ cZ h0 hV hB n vf bf wo wp c1 hn hzv hzb hy h64 hc1 hc
