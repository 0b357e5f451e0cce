set_option maxRecDepth 100000 in
theorem ls_8 {p : Program} {l : Launch} {e : Env} {s : State} {m : MethodId} {below : List Frame} {meth : Method} {c : Code} {dC : Nat → ClassId} {dI : Nat → Nat → Nat} {cB cI cJ cZ cS cO : ClassId} {bb L : Nat} {xs : Nat → Int32} {K V : Nat → Nat} {fz : Value} {A : Nat → Prop} {b h0 : Nat} {a : Nat → Nat} (C0 : lw_At p s m meth c bb L xs) (hZ : zE K V fz A s) (hA : ∀ q : Nat, s.heap.size ≤ q → A q) (hbA : ¬ A bb) (hbe : s.heap.size = b) (hK : va_K (dC, dI) vwCl [(cB, .byte), (cI, .int), (cJ, .long), (cZ, .boolean), (cS, .object "StreamQueries$Source"), (cO, .object "java/lang/Object")] s) {F i : Nat} {cs cs9 : CS} {rs rs9 : RS} {H : Heap} {locs : List Loc} {ls : Array Slot} (hi : i + 6 ≤ L) (hL : L ≤ 384) (hP : va_P (dC, dI) vwCl (cW cB cI cJ cZ cS cO b cs ++ mW cB cI cJ cZ h0 a rs) H) (hD : va_D A (cW cB cI cJ cZ cS cO b cs ++ mW cB cI cJ cZ h0 a rs)) (hS : va_S A s.heap H locs) (hz : H.size = b + kK cs) (hf : lk_8 F cs rs (xs (i + 1)) (xs (i + 2)) (xs (i + 3)) (xs (i + 4)) (xs (i + 5)) = some (cs9, rs9)) (hR1 : kK cs9 ≤ 600000) (hR2 : kM cs9 ≤ 7302250) (hl : lv_has ls 4 [(3, .int (nI i)), (2, .ref h0), (1, .ref (b + 0)), (0, .ref bb)]) (kk : ∀ (H1 : Heap) (locs1 : List Loc), va_P (dC, dI) vwCl (cW cB cI cJ cZ cS cO b cs9 ++ mW cB cI cJ cZ h0 a rs9) H1 → va_D A (cW cB cI cJ cZ cS cO b cs9 ++ mW cB cI cJ cZ h0 a rs9) → va_S A s.heap H1 locs1 → H1.size = b + kK cs9 → W p l e room_1 s m #[Value.ref bb] below meth c H1 locs1 (kK cs9) (kM cs9) (lw_Z below #[Value.ref bb] s) (F0 m 750 ls [])) : W p l e room_1 s m #[Value.ref bb] below meth c H locs (kK cs) (kM cs) (lw_Z below #[Value.ref bb] s) (F0 m 392 ls []) := by
  obtain ⟨hx, hb, hr, hml, hown, hts, hX, hbl, hlocks, hgv⟩ := id C0
  unfold lk_8 at hf
  obtain ⟨u0, e0, hf⟩ := ob hf
  obtain ⟨⟨cs1, r1⟩, e1, hf⟩ := ob hf
  obtain ⟨⟨rs1, r2⟩, e2, hf⟩ := ob hf
  have hf : (if r1 = r2 then some (cs1, rs1) else none) = some (cs9, rs9) := hf
  by_cases hq : r1 = r2
  case neg => rw [if_neg hq] at hf; cases hf
  rw [if_pos hq] at hf
  have hc9 : cs1 = cs9 := congrArg Prod.fst (Option.some.inj hf)
  have hr9 : rs1 = rs9 := congrArg Prod.snd (Option.some.inj hf)
  subst hc9
  subst hr9
  have hmo := mo_c_X11_back F cs 0 (xs (i + 1)) (xs (i + 2)) cs1 r1 e1
  have hcc : s.heap.size + kK cs = b + kK cs := by rw [hbe]
  refine lv_aload_n hx hb dL_law_392 rfl (lv_at hl 2 rfl) ?_
  refine lv_aload_n hx hb dL_law_393 rfl (lv_at hl 3 rfl) ?_
  refine lv_iload_n hx hb dL_law_394 rfl (lv_at hl 0 rfl) ?_
  refine lv_iconst (v := 1) hx hb dL_law_395 (by decide) ?_
  refine lv_iadd hx hb dL_law_396 ?_
  refine lv_topi (fun y_ ey_ => ?_)
  have ey_ : y_ = nI (i + 1) := ey_.trans (pkA1 i)
  rw [ey_]
  refine va_sld hx hb hX hbl hbA hS (i := nI (i + 1)) (vp_in_nI (n := i + 1) (N := L) (by omega) (by omega)) dL_law_397 ?_
  refine lv_topi (fun y_ ey_ => ?_)
  have ey_ : y_ = xs (i + 1) := ey_.trans (congrArg xs (nI_clamp (n := i + 1) (by omega)))
  rw [ey_]
  refine lv_aload_n hx hb dL_law_398 rfl (lv_at hl 3 rfl) ?_
  refine lv_iload_n hx hb dL_law_399 rfl (lv_at hl 0 rfl) ?_
  refine lv_iconst (v := 2) hx hb dL_law_400 (by decide) ?_
  refine lv_iadd hx hb dL_law_401 ?_
  refine lv_topi (fun y_ ey_ => ?_)
  have ey_ : y_ = nI (i + 2) := ey_.trans (pkA2 i)
  rw [ey_]
  refine va_sld hx hb hX hbl hbA hS (i := nI (i + 2)) (vp_in_nI (n := i + 2) (N := L) (by omega) (by omega)) dL_law_402 ?_
  refine lv_topi (fun y_ ey_ => ?_)
  have ey_ : y_ = xs (i + 2) := ey_.trans (congrArg xs (nI_clamp (n := i + 2) (by omega)))
  rw [ey_]
  refine jaI (nL := 4) (As := [.int (xs (i + 1)), .int (xs (i + 2))]) (rest := []) (X := 12) (i := 0) (wf := mW cB cI cJ cZ h0 a rs) hx hb hml hts hown hK hP hD hS hA hz hcc hZ (by decide) rfl (ckE_some e0) (sa_X11_back l dC dI cB cI cJ cZ cS cO b K V fz F cs 0 (xs (i + 1)) (xs (i + 2)) cs1 r1 e1) (cwV 2 hts (gd_law (in_V kw_1599 kw_1600 kw_1601 kw_181 kc_X11_back)) rfl rfl rfl (by decide +kernel) ⟨Nat.le_of_ble_eq_true rfl, Nat.le_of_ble_eq_true rfl⟩) rfl hl.1 (Nat.le_of_ble_eq_true rfl) ⟨by show kK cs + (kK cs1 - kK cs) ≤ 600000; omega, by show kM cs + (kM cs1 - kM cs) ≤ 7302250; omega⟩ dL_law_403 (fun H1 locs1 hP1 hD1 hS1 hz1 => ?_)
  rw [show kK cs + (kK cs1 - kK cs) = kK cs1 by omega, show kM cs + (kM cs1 - kM cs) = kM cs1 by omega]
  refine lv_aload_n hx hb dL_law_406 rfl (lv_at hl 1 rfl) ?_
  refine lv_aload_n hx hb dL_law_407 rfl (lv_at hl 3 rfl) ?_
  refine lv_iload_n hx hb dL_law_408 rfl (lv_at hl 0 rfl) ?_
  refine lv_iconst (v := 1) hx hb dL_law_409 (by decide) ?_
  refine lv_iadd hx hb dL_law_410 ?_
  refine lv_topi (fun y_ ey_ => ?_)
  have ey_ : y_ = nI (i + 1) := ey_.trans (pkA1 i)
  rw [ey_]
  refine va_sld hx hb hX hbl hbA hS1 (i := nI (i + 1)) (vp_in_nI (n := i + 1) (N := L) (by omega) (by omega)) dL_law_411 ?_
  refine lv_topi (fun y_ ey_ => ?_)
  have ey_ : y_ = xs (i + 1) := ey_.trans (congrArg xs (nI_clamp (n := i + 1) (by omega)))
  rw [ey_]
  refine lv_aload_n hx hb dL_law_412 rfl (lv_at hl 3 rfl) ?_
  refine lv_iload_n hx hb dL_law_413 rfl (lv_at hl 0 rfl) ?_
  refine lv_iconst (v := 2) hx hb dL_law_414 (by decide) ?_
  refine lv_iadd hx hb dL_law_415 ?_
  refine lv_topi (fun y_ ey_ => ?_)
  have ey_ : y_ = nI (i + 2) := ey_.trans (pkA2 i)
  rw [ey_]
  refine va_sld hx hb hX hbl hbA hS1 (i := nI (i + 2)) (vp_in_nI (n := i + 2) (N := L) (by omega) (by omega)) dL_law_416 ?_
  refine lv_topi (fun y_ ey_ => ?_)
  have ey_ : y_ = xs (i + 2) := ey_.trans (congrArg xs (nI_clamp (n := i + 2) (by omega)))
  rw [ey_]
  refine jmI (b := b) (nL := 4) (As := [.int (xs (i + 1)), .int (xs (i + 2))]) (rest := [.int r1]) (wf := cW cB cI cJ cZ cS cO b cs1) hx hb hml hts hown hK (va_P_sw hP1) (va_D_sw hD1) hS1 hA (by rw [hz1, hbe]) hZ (s_back l dC dI cB cI cJ cZ h0 a K V fz F rs (xs (i + 1)) (xs (i + 2)) rs1 r2 e2) (cwV 2 hts (gd_law (in_V kw_2212 kw_2213 kw_2214 kw_191 kc_X12_back)) rfl rfl rfl (by decide +kernel) ⟨Nat.le_of_ble_eq_true rfl, Nat.le_of_ble_eq_true rfl⟩) rfl hl.1 (Nat.le_of_ble_eq_true rfl) ⟨hR1, hR2⟩ dL_law_417 (fun H2 locs2 hP2 hD2 hS2 hz2 => ?_)
  refine lv_icmp_eq (tgt := 750) hx hb dL_law_420 (by decide) (fun c_ => ?_) (fun c_ => ?_)
  · exact kk H2 locs2 (va_P_sw hP2) (va_D_sw hD2) hS2 (hz2.trans hz1)
  · exact absurd hq c_
set_option maxRecDepth 100000 in
theorem ls_9 {p : Program} {l : Launch} {e : Env} {s : State} {m : MethodId} {below : List Frame} {meth : Method} {c : Code} {dC : Nat → ClassId} {dI : Nat → Nat → Nat} {cB cI cJ cZ cS cO : ClassId} {bb L : Nat} {xs : Nat → Int32} {K V : Nat → Nat} {fz : Value} {A : Nat → Prop} {b h0 : Nat} {a : Nat → Nat} (C0 : lw_At p s m meth c bb L xs) (hZ : zE K V fz A s) (hA : ∀ q : Nat, s.heap.size ≤ q → A q) (hbA : ¬ A bb) (hbe : s.heap.size = b) (hK : va_K (dC, dI) vwCl [(cB, .byte), (cI, .int), (cJ, .long), (cZ, .boolean), (cS, .object "StreamQueries$Source"), (cO, .object "java/lang/Object")] s) {F i : Nat} {cs cs9 : CS} {rs rs9 : RS} {H : Heap} {locs : List Loc} {ls : Array Slot} (hi : i + 6 ≤ L) (hL : L ≤ 384) (hP : va_P (dC, dI) vwCl (cW cB cI cJ cZ cS cO b cs ++ mW cB cI cJ cZ h0 a rs) H) (hD : va_D A (cW cB cI cJ cZ cS cO b cs ++ mW cB cI cJ cZ h0 a rs)) (hS : va_S A s.heap H locs) (hz : H.size = b + kK cs) (hf : lk_9 F cs rs (xs (i + 1)) (xs (i + 2)) (xs (i + 3)) (xs (i + 4)) (xs (i + 5)) = some (cs9, rs9)) (hR1 : kK cs9 ≤ 600000) (hR2 : kM cs9 ≤ 7302250) (hl : lv_has ls 4 [(3, .int (nI i)), (2, .ref h0), (1, .ref (b + 0)), (0, .ref bb)]) (kk : ∀ (H1 : Heap) (locs1 : List Loc), va_P (dC, dI) vwCl (cW cB cI cJ cZ cS cO b cs9 ++ mW cB cI cJ cZ h0 a rs9) H1 → va_D A (cW cB cI cJ cZ cS cO b cs9 ++ mW cB cI cJ cZ h0 a rs9) → va_S A s.heap H1 locs1 → H1.size = b + kK cs9 → W p l e room_1 s m #[Value.ref bb] below meth c H1 locs1 (kK cs9) (kM cs9) (lw_Z below #[Value.ref bb] s) (F0 m 750 ls [])) : W p l e room_1 s m #[Value.ref bb] below meth c H locs (kK cs) (kM cs) (lw_Z below #[Value.ref bb] s) (F0 m 425 ls []) := by
  obtain ⟨hx, hb, hr, hml, hown, hts, hX, hbl, hlocks, hgv⟩ := id C0
  unfold lk_9 at hf
  obtain ⟨u0, e0, hf⟩ := ob hf
  obtain ⟨⟨cs1, r1⟩, e1, hf⟩ := ob hf
  obtain ⟨⟨rs1, r2⟩, e2, hf⟩ := ob hf
  have hf : (if r1 = r2 then some (cs1, rs1) else none) = some (cs9, rs9) := hf
  by_cases hq : r1 = r2
  case neg => rw [if_neg hq] at hf; cases hf
  rw [if_pos hq] at hf
  have hc9 : cs1 = cs9 := congrArg Prod.fst (Option.some.inj hf)
  have hr9 : rs1 = rs9 := congrArg Prod.snd (Option.some.inj hf)
  subst hc9
  subst hr9
  have hmo := mo_c_X11_watermark F cs 0 (((xs (i + 1)).toInt64 <<< ((32 : Int32).toInt64 &&& 63)) ||| ((xs (i + 2)).toInt64 &&& 4294967295)) cs1 r1 e1
  have hcc : s.heap.size + kK cs = b + kK cs := by rw [hbe]
  refine lv_aload_n hx hb dL_law_425 rfl (lv_at hl 2 rfl) ?_
  refine lv_aload_n hx hb dL_law_426 rfl (lv_at hl 3 rfl) ?_
  refine lv_iload_n hx hb dL_law_427 rfl (lv_at hl 0 rfl) ?_
  refine lv_iconst (v := 1) hx hb dL_law_428 (by decide) ?_
  refine lv_iadd hx hb dL_law_429 ?_
  refine lv_topi (fun y_ ey_ => ?_)
  have ey_ : y_ = nI (i + 1) := ey_.trans (pkA1 i)
  rw [ey_]
  refine va_sld hx hb hX hbl hbA hS (i := nI (i + 1)) (vp_in_nI (n := i + 1) (N := L) (by omega) (by omega)) dL_law_430 ?_
  refine lv_topi (fun y_ ey_ => ?_)
  have ey_ : y_ = xs (i + 1) := ey_.trans (congrArg xs (nI_clamp (n := i + 1) (by omega)))
  rw [ey_]
  refine lv_i2l hx hb dL_law_431 rfl ?_
  refine lv_bipush (v := 32) hx hb dL_law_432 (by decide) ?_
  refine lv_lshl (v := (((xs (i + 1)).toInt64) <<< ((32 : Int32).toInt64 &&& 63))) hx hb dL_law_434 rfl ?_
  refine lv_aload_n hx hb dL_law_435 rfl (lv_at hl 3 rfl) ?_
  refine lv_iload_n hx hb dL_law_436 rfl (lv_at hl 0 rfl) ?_
  refine lv_iconst (v := 2) hx hb dL_law_437 (by decide) ?_
  refine lv_iadd hx hb dL_law_438 ?_
  refine lv_topi (fun y_ ey_ => ?_)
  have ey_ : y_ = nI (i + 2) := ey_.trans (pkA2 i)
  rw [ey_]
  refine va_sld hx hb hX hbl hbA hS (i := nI (i + 2)) (vp_in_nI (n := i + 2) (N := L) (by omega) (by omega)) dL_law_439 ?_
  refine lv_topi (fun y_ ey_ => ?_)
  have ey_ : y_ = xs (i + 2) := ey_.trans (congrArg xs (nI_clamp (n := i + 2) (by omega)))
  rw [ey_]
  refine lv_i2l hx hb dL_law_440 rfl ?_
  refine lv_ldc2 hx hb hown (hts _ (kG_in kw_2511)) dL_law_441 ?_
  refine lv_land hx hb dL_law_444 ?_
  refine lv_lor hx hb dL_law_445 ?_
  refine jaI (nL := 4) (As := [.long (((xs (i + 1)).toInt64 <<< ((32 : Int32).toInt64 &&& 63)) ||| ((xs (i + 2)).toInt64 &&& 4294967295))]) (rest := []) (X := 12) (i := 0) (wf := mW cB cI cJ cZ h0 a rs) hx hb hml hts hown hK hP hD hS hA hz hcc hZ (by decide) rfl (ckE_some e0) (sa_X11_watermark l dC dI cB cI cJ cZ cS cO b K V fz F cs 0 (((xs (i + 1)).toInt64 <<< ((32 : Int32).toInt64 &&& 63)) ||| ((xs (i + 2)).toInt64 &&& 4294967295)) cs1 r1 e1) (cwV 1 hts (gd_law (in_V kw_1607 kw_1608 kw_1609 kw_181 kc_X11_watermark)) rfl rfl rfl (by decide +kernel) ⟨Nat.le_of_ble_eq_true rfl, Nat.le_of_ble_eq_true rfl⟩) rfl hl.1 (Nat.le_of_ble_eq_true rfl) ⟨by show kK cs + (kK cs1 - kK cs) ≤ 600000; omega, by show kM cs + (kM cs1 - kM cs) ≤ 7302250; omega⟩ dL_law_446 (fun H1 locs1 hP1 hD1 hS1 hz1 => ?_)
  rw [show kK cs + (kK cs1 - kK cs) = kK cs1 by omega, show kM cs + (kM cs1 - kM cs) = kM cs1 by omega]
  refine lv_aload_n hx hb dL_law_449 rfl (lv_at hl 1 rfl) ?_
  refine lv_aload_n hx hb dL_law_450 rfl (lv_at hl 3 rfl) ?_
  refine lv_iload_n hx hb dL_law_451 rfl (lv_at hl 0 rfl) ?_
  refine lv_iconst (v := 1) hx hb dL_law_452 (by decide) ?_
  refine lv_iadd hx hb dL_law_453 ?_
  refine lv_topi (fun y_ ey_ => ?_)
  have ey_ : y_ = nI (i + 1) := ey_.trans (pkA1 i)
  rw [ey_]
  refine va_sld hx hb hX hbl hbA hS1 (i := nI (i + 1)) (vp_in_nI (n := i + 1) (N := L) (by omega) (by omega)) dL_law_454 ?_
  refine lv_topi (fun y_ ey_ => ?_)
  have ey_ : y_ = xs (i + 1) := ey_.trans (congrArg xs (nI_clamp (n := i + 1) (by omega)))
  rw [ey_]
  refine lv_i2l hx hb dL_law_455 rfl ?_
  refine lv_bipush (v := 32) hx hb dL_law_456 (by decide) ?_
  refine lv_lshl (v := (((xs (i + 1)).toInt64) <<< ((32 : Int32).toInt64 &&& 63))) hx hb dL_law_458 rfl ?_
  refine lv_aload_n hx hb dL_law_459 rfl (lv_at hl 3 rfl) ?_
  refine lv_iload_n hx hb dL_law_460 rfl (lv_at hl 0 rfl) ?_
  refine lv_iconst (v := 2) hx hb dL_law_461 (by decide) ?_
  refine lv_iadd hx hb dL_law_462 ?_
  refine lv_topi (fun y_ ey_ => ?_)
  have ey_ : y_ = nI (i + 2) := ey_.trans (pkA2 i)
  rw [ey_]
  refine va_sld hx hb hX hbl hbA hS1 (i := nI (i + 2)) (vp_in_nI (n := i + 2) (N := L) (by omega) (by omega)) dL_law_463 ?_
  refine lv_topi (fun y_ ey_ => ?_)
  have ey_ : y_ = xs (i + 2) := ey_.trans (congrArg xs (nI_clamp (n := i + 2) (by omega)))
  rw [ey_]
  refine lv_i2l hx hb dL_law_464 rfl ?_
  refine lv_ldc2 hx hb hown (hts _ (kG_in kw_2511)) dL_law_465 ?_
  refine lv_land hx hb dL_law_468 ?_
  refine lv_lor hx hb dL_law_469 ?_
  refine jmI (b := b) (nL := 4) (As := [.long (((xs (i + 1)).toInt64 <<< ((32 : Int32).toInt64 &&& 63)) ||| ((xs (i + 2)).toInt64 &&& 4294967295))]) (rest := [.int r1]) (wf := cW cB cI cJ cZ cS cO b cs1) hx hb hml hts hown hK (va_P_sw hP1) (va_D_sw hD1) hS1 hA (by rw [hz1, hbe]) hZ (s_watermark l dC dI cB cI cJ cZ h0 a K V fz F rs (((xs (i + 1)).toInt64 <<< ((32 : Int32).toInt64 &&& 63)) ||| ((xs (i + 2)).toInt64 &&& 4294967295)) rs1 r2 e2) (cwV 1 hts (gd_law (in_V kw_2216 kw_2217 kw_2218 kw_191 kc_X12_watermark)) rfl rfl rfl (by decide +kernel) ⟨Nat.le_of_ble_eq_true rfl, Nat.le_of_ble_eq_true rfl⟩) rfl hl.1 (Nat.le_of_ble_eq_true rfl) ⟨hR1, hR2⟩ dL_law_470 (fun H2 locs2 hP2 hD2 hS2 hz2 => ?_)
  refine lv_icmp_eq (tgt := 750) hx hb dL_law_473 (by decide) (fun c_ => ?_) (fun c_ => ?_)
  · exact kk H2 locs2 (va_P_sw hP2) (va_D_sw hD2) hS2 (hz2.trans hz1)
  · exact absurd hq c_
set_option maxRecDepth 100000 in
theorem ls_10 {p : Program} {l : Launch} {e : Env} {s : State} {m : MethodId} {below : List Frame} {meth : Method} {c : Code} {dC : Nat → ClassId} {dI : Nat → Nat → Nat} {cB cI cJ cZ cS cO : ClassId} {bb L : Nat} {xs : Nat → Int32} {K V : Nat → Nat} {fz : Value} {A : Nat → Prop} {b h0 : Nat} {a : Nat → Nat} (C0 : lw_At p s m meth c bb L xs) (hZ : zE K V fz A s) (hA : ∀ q : Nat, s.heap.size ≤ q → A q) (hbA : ¬ A bb) (hbe : s.heap.size = b) (hK : va_K (dC, dI) vwCl [(cB, .byte), (cI, .int), (cJ, .long), (cZ, .boolean), (cS, .object "StreamQueries$Source"), (cO, .object "java/lang/Object")] s) {F i : Nat} {cs cs9 : CS} {rs rs9 : RS} {H : Heap} {locs : List Loc} {ls : Array Slot} (hi : i + 6 ≤ L) (hL : L ≤ 384) (hP : va_P (dC, dI) vwCl (cW cB cI cJ cZ cS cO b cs ++ mW cB cI cJ cZ h0 a rs) H) (hD : va_D A (cW cB cI cJ cZ cS cO b cs ++ mW cB cI cJ cZ h0 a rs)) (hS : va_S A s.heap H locs) (hz : H.size = b + kK cs) (hf : lk_10 F cs rs (xs (i + 1)) (xs (i + 2)) (xs (i + 3)) (xs (i + 4)) (xs (i + 5)) = some (cs9, rs9)) (hR1 : kK cs9 ≤ 600000) (hR2 : kM cs9 ≤ 7302250) (hl : lv_has ls 4 [(3, .int (nI i)), (2, .ref h0), (1, .ref (b + 0)), (0, .ref bb)]) (kk : ∀ (H1 : Heap) (locs1 : List Loc), va_P (dC, dI) vwCl (cW cB cI cJ cZ cS cO b cs9 ++ mW cB cI cJ cZ h0 a rs9) H1 → va_D A (cW cB cI cJ cZ cS cO b cs9 ++ mW cB cI cJ cZ h0 a rs9) → va_S A s.heap H1 locs1 → H1.size = b + kK cs9 → W p l e room_1 s m #[Value.ref bb] below meth c H1 locs1 (kK cs9) (kM cs9) (lw_Z below #[Value.ref bb] s) (F0 m 750 ls [])) : W p l e room_1 s m #[Value.ref bb] below meth c H locs (kK cs) (kM cs) (lw_Z below #[Value.ref bb] s) (F0 m 478 ls []) := by
  obtain ⟨hx, hb, hr, hml, hown, hts, hX, hbl, hlocks, hgv⟩ := id C0
  unfold lk_10 at hf
  obtain ⟨u0, e0, hf⟩ := ob hf
  obtain ⟨r1, e1, hf⟩ := ob hf
  obtain ⟨r2, e2, hf⟩ := ob hf
  have hf : (if r1 = r2 then some (cs, rs) else none) = some (cs9, rs9) := hf
  by_cases hq : r1 = r2
  case neg => rw [if_neg hq] at hf; cases hf
  rw [if_pos hq] at hf
  have hc9 : cs = cs9 := congrArg Prod.fst (Option.some.inj hf)
  have hr9 : rs = rs9 := congrArg Prod.snd (Option.some.inj hf)
  subst hc9
  subst hr9
  have hcc : s.heap.size + kK cs = b + kK cs := by rw [hbe]
  refine lv_aload_n hx hb dL_law_478 rfl (lv_at hl 2 rfl) ?_
  refine jbI (nL := 4) (As := []) (rest := []) (X := 12) (i := 0) (wf := mW cB cI cJ cZ h0 a rs) hx hb hml hts hown hK hP hD hS hA hz hcc hZ (by decide) rfl (ckE_some e0) (sc_X11_changes l dC dI cB cI cJ cZ cS cO b K V fz F cs 0  r1 e1) (cwV 0 hts (gd_law (in_V kw_1611 kw_1612 kw_1613 kw_181 kc_X11_changes)) rfl rfl rfl (by decide +kernel) ⟨Nat.le_of_ble_eq_true rfl, Nat.le_of_ble_eq_true rfl⟩) rfl hl.1 (Nat.le_of_ble_eq_true rfl) ⟨by show kK cs ≤ 600000; omega, by show kM cs ≤ 7302250; omega⟩ dL_law_479 (fun H1 locs1 hP1 hD1 hS1 hz1 => ?_)
  refine lv_aload_n hx hb dL_law_482 rfl (lv_at hl 1 rfl) ?_
  refine jmI (b := b) (nL := 4) (As := []) (rest := [.int r1]) (wf := cW cB cI cJ cZ cS cO b cs) hx hb hml hts hown hK (va_P_sw hP1) (va_D_sw hD1) hS1 hA (by rw [hz1, hbe]) hZ (s_changes l dC dI cB cI cJ cZ h0 a K V fz F rs  r2 e2) (cwV 0 hts (gd_law (in_V kw_2463 kw_2464 kw_2465 kw_191 kc_X12_changes)) rfl rfl rfl (by decide +kernel) ⟨Nat.le_of_ble_eq_true rfl, Nat.le_of_ble_eq_true rfl⟩) rfl hl.1 (Nat.le_of_ble_eq_true rfl) ⟨hR1, hR2⟩ dL_law_483 (fun H2 locs2 hP2 hD2 hS2 hz2 => ?_)
  refine lv_icmp_eq (tgt := 750) hx hb dL_law_486 (by decide) (fun c_ => ?_) (fun c_ => ?_)
  · exact kk H2 locs2 (va_P_sw hP2) (va_D_sw hD2) hS2 (hz2.trans hz1)
  · exact absurd hq c_
set_option maxRecDepth 100000 in
theorem ls_11 {p : Program} {l : Launch} {e : Env} {s : State} {m : MethodId} {below : List Frame} {meth : Method} {c : Code} {dC : Nat → ClassId} {dI : Nat → Nat → Nat} {cB cI cJ cZ cS cO : ClassId} {bb L : Nat} {xs : Nat → Int32} {K V : Nat → Nat} {fz : Value} {A : Nat → Prop} {b h0 : Nat} {a : Nat → Nat} (C0 : lw_At p s m meth c bb L xs) (hZ : zE K V fz A s) (hA : ∀ q : Nat, s.heap.size ≤ q → A q) (hbA : ¬ A bb) (hbe : s.heap.size = b) (hK : va_K (dC, dI) vwCl [(cB, .byte), (cI, .int), (cJ, .long), (cZ, .boolean), (cS, .object "StreamQueries$Source"), (cO, .object "java/lang/Object")] s) {F i : Nat} {cs cs9 : CS} {rs rs9 : RS} {H : Heap} {locs : List Loc} {ls : Array Slot} (hi : i + 6 ≤ L) (hL : L ≤ 384) (hP : va_P (dC, dI) vwCl (cW cB cI cJ cZ cS cO b cs ++ mW cB cI cJ cZ h0 a rs) H) (hD : va_D A (cW cB cI cJ cZ cS cO b cs ++ mW cB cI cJ cZ h0 a rs)) (hS : va_S A s.heap H locs) (hz : H.size = b + kK cs) (hf : lk_11 F cs rs (xs (i + 1)) (xs (i + 2)) (xs (i + 3)) (xs (i + 4)) (xs (i + 5)) = some (cs9, rs9)) (hR1 : kK cs9 ≤ 600000) (hR2 : kM cs9 ≤ 7302250) (hl : lv_has ls 4 [(3, .int (nI i)), (2, .ref h0), (1, .ref (b + 0)), (0, .ref bb)]) (kk : ∀ (H1 : Heap) (locs1 : List Loc), va_P (dC, dI) vwCl (cW cB cI cJ cZ cS cO b cs9 ++ mW cB cI cJ cZ h0 a rs9) H1 → va_D A (cW cB cI cJ cZ cS cO b cs9 ++ mW cB cI cJ cZ h0 a rs9) → va_S A s.heap H1 locs1 → H1.size = b + kK cs9 → W p l e room_1 s m #[Value.ref bb] below meth c H1 locs1 (kK cs9) (kM cs9) (lw_Z below #[Value.ref bb] s) (F0 m 750 ls [])) : W p l e room_1 s m #[Value.ref bb] below meth c H locs (kK cs) (kM cs) (lw_Z below #[Value.ref bb] s) (F0 m 491 ls []) := by
  obtain ⟨hx, hb, hr, hml, hown, hts, hX, hbl, hlocks, hgv⟩ := id C0
  unfold lk_11 at hf
  obtain ⟨u0, e0, hf⟩ := ob hf
  obtain ⟨r1, e1, hf⟩ := ob hf
  obtain ⟨r2, e2, hf⟩ := ob hf
  have hf : (if r1 = r2 then some (cs, rs) else none) = some (cs9, rs9) := hf
  by_cases hq : r1 = r2
  case neg => rw [if_neg hq] at hf; cases hf
  rw [if_pos hq] at hf
  have hc9 : cs = cs9 := congrArg Prod.fst (Option.some.inj hf)
  have hr9 : rs = rs9 := congrArg Prod.snd (Option.some.inj hf)
  subst hc9
  subst hr9
  have hcc : s.heap.size + kK cs = b + kK cs := by rw [hbe]
  refine lv_aload_n hx hb dL_law_491 rfl (lv_at hl 2 rfl) ?_
  refine lv_aload_n hx hb dL_law_492 rfl (lv_at hl 3 rfl) ?_
  refine lv_iload_n hx hb dL_law_493 rfl (lv_at hl 0 rfl) ?_
  refine lv_iconst (v := 1) hx hb dL_law_494 (by decide) ?_
  refine lv_iadd hx hb dL_law_495 ?_
  refine lv_topi (fun y_ ey_ => ?_)
  have ey_ : y_ = nI (i + 1) := ey_.trans (pkA1 i)
  rw [ey_]
  refine va_sld hx hb hX hbl hbA hS (i := nI (i + 1)) (vp_in_nI (n := i + 1) (N := L) (by omega) (by omega)) dL_law_496 ?_
  refine lv_topi (fun y_ ey_ => ?_)
  have ey_ : y_ = xs (i + 1) := ey_.trans (congrArg xs (nI_clamp (n := i + 1) (by omega)))
  rw [ey_]
  refine jbI (nL := 4) (As := [.int (xs (i + 1))]) (rest := []) (X := 12) (i := 0) (wf := mW cB cI cJ cZ h0 a rs) hx hb hml hts hown hK hP hD hS hA hz hcc hZ (by decide) rfl (ckE_some e0) (sc_X11_change l dC dI cB cI cJ cZ cS cO b K V fz F cs 0 (xs (i + 1)) r1 e1) (cwV 1 hts (gd_law (in_V kw_1615 kw_1616 kw_1617 kw_181 kc_X11_change)) rfl rfl rfl (by decide +kernel) ⟨Nat.le_of_ble_eq_true rfl, Nat.le_of_ble_eq_true rfl⟩) rfl hl.1 (Nat.le_of_ble_eq_true rfl) ⟨by show kK cs ≤ 600000; omega, by show kM cs ≤ 7302250; omega⟩ dL_law_497 (fun H1 locs1 hP1 hD1 hS1 hz1 => ?_)
  refine lv_aload_n hx hb dL_law_500 rfl (lv_at hl 1 rfl) ?_
  refine lv_aload_n hx hb dL_law_501 rfl (lv_at hl 3 rfl) ?_
  refine lv_iload_n hx hb dL_law_502 rfl (lv_at hl 0 rfl) ?_
  refine lv_iconst (v := 1) hx hb dL_law_503 (by decide) ?_
  refine lv_iadd hx hb dL_law_504 ?_
  refine lv_topi (fun y_ ey_ => ?_)
  have ey_ : y_ = nI (i + 1) := ey_.trans (pkA1 i)
  rw [ey_]
  refine va_sld hx hb hX hbl hbA hS1 (i := nI (i + 1)) (vp_in_nI (n := i + 1) (N := L) (by omega) (by omega)) dL_law_505 ?_
  refine lv_topi (fun y_ ey_ => ?_)
  have ey_ : y_ = xs (i + 1) := ey_.trans (congrArg xs (nI_clamp (n := i + 1) (by omega)))
  rw [ey_]
  refine jmI (b := b) (nL := 4) (As := [.int (xs (i + 1))]) (rest := [.int r1]) (wf := cW cB cI cJ cZ cS cO b cs) hx hb hml hts hown hK (va_P_sw hP1) (va_D_sw hD1) hS1 hA (by rw [hz1, hbe]) hZ (s_change l dC dI cB cI cJ cZ h0 a K V fz F rs (xs (i + 1)) r2 e2) (cwV 1 hts (gd_law (in_V kw_2467 kw_2468 kw_2469 kw_191 kc_X12_change)) rfl rfl rfl (by decide +kernel) ⟨Nat.le_of_ble_eq_true rfl, Nat.le_of_ble_eq_true rfl⟩) rfl hl.1 (Nat.le_of_ble_eq_true rfl) ⟨hR1, hR2⟩ dL_law_506 (fun H2 locs2 hP2 hD2 hS2 hz2 => ?_)
  refine lv_icmp_eq (tgt := 750) hx hb dL_law_509 (by decide) (fun c_ => ?_) (fun c_ => ?_)
  · exact kk H2 locs2 (va_P_sw hP2) (va_D_sw hD2) hS2 (hz2.trans hz1)
  · exact absurd hq c_
