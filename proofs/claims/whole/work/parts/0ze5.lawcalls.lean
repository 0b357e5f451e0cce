set_option maxRecDepth 100000 in
theorem ls_12 {p : Program} {l : Launch} {e : Env} {s : State} {m : MethodId} {below : List Frame} {meth : Method} {c : Code} {dC : Nat → ClassId} {dI : Nat → Nat → Nat} {cB cI cJ cZ cS cO : ClassId} {bb L : Nat} {xs : Nat → Int32} {K V : Nat → Nat} {fz : Value} {A : Nat → Prop} {b h0 : Nat} {a : Nat → Nat} (C0 : lw_At p s m meth c bb L xs) (hZ : zE K V fz A s) (hA : ∀ q : Nat, s.heap.size ≤ q → A q) (hbA : ¬ A bb) (hbe : s.heap.size = b) (hK : va_K (dC, dI) vwCl [(cB, .byte), (cI, .int), (cJ, .long), (cZ, .boolean), (cS, .object "StreamQueries$Source"), (cO, .object "java/lang/Object")] s) {F i : Nat} {cs cs9 : CS} {rs rs9 : RS} {H : Heap} {locs : List Loc} {ls : Array Slot} (hi : i + 6 ≤ L) (hL : L ≤ 384) (hP : va_P (dC, dI) vwCl (cW cB cI cJ cZ cS cO b cs ++ mW cB cI cJ cZ h0 a rs) H) (hD : va_D A (cW cB cI cJ cZ cS cO b cs ++ mW cB cI cJ cZ h0 a rs)) (hS : va_S A s.heap H locs) (hz : H.size = b + kK cs) (hf : lk_12 F cs rs (xs (i + 1)) (xs (i + 2)) (xs (i + 3)) (xs (i + 4)) (xs (i + 5)) = some (cs9, rs9)) (hR1 : kK cs9 ≤ 600000) (hR2 : kM cs9 ≤ 7302250) (hl : lv_has ls 4 [(3, .int (nI i)), (2, .ref h0), (1, .ref (b + 0)), (0, .ref bb)]) (kk : ∀ (H1 : Heap) (locs1 : List Loc), va_P (dC, dI) vwCl (cW cB cI cJ cZ cS cO b cs9 ++ mW cB cI cJ cZ h0 a rs9) H1 → va_D A (cW cB cI cJ cZ cS cO b cs9 ++ mW cB cI cJ cZ h0 a rs9) → va_S A s.heap H1 locs1 → H1.size = b + kK cs9 → W p l e room_1 s m #[Value.ref bb] below meth c H1 locs1 (kK cs9) (kM cs9) (lw_Z below #[Value.ref bb] s) (F0 m 750 ls [])) : W p l e room_1 s m #[Value.ref bb] below meth c H locs (kK cs) (kM cs) (lw_Z below #[Value.ref bb] s) (F0 m 514 ls []) := by
  obtain ⟨hx, hb, hr, hml, hown, hts, hX, hbl, hlocks, hgv⟩ := id C0
  unfold lk_12 at hf
  obtain ⟨u0, e0, hf⟩ := ob hf
  obtain ⟨r1, e1, hf⟩ := ob hf
  obtain ⟨r2, e2, hf⟩ := ob hf
  have hf : (if r1 = r2 then some (cs, rs) else none) = some (cs9, rs9) := hf
  by_cases hq : r1 = r2
  case neg => rw [if_neg hq] at hf; cases hf
  rw [if_pos hq] at hf
  have hc9 : cs = cs9 := congrArg Prod.fst (Option.some.inj hf)
  have hr9 : rs = rs9 := congrArg Prod.snd (Option.some.inj hf)
  subst hc9
  subst hr9
  have hcc : s.heap.size + kK cs = b + kK cs := by rw [hbe]
  refine lv_aload_n hx hb dL_law_514 rfl (lv_at hl 2 rfl) ?_
  refine lv_aload_n hx hb dL_law_515 rfl (lv_at hl 3 rfl) ?_
  refine lv_iload_n hx hb dL_law_516 rfl (lv_at hl 0 rfl) ?_
  refine lv_iconst (v := 1) hx hb dL_law_517 (by decide) ?_
  refine lv_iadd hx hb dL_law_518 ?_
  refine lv_topi (fun y_ ey_ => ?_)
  have ey_ : y_ = nI (i + 1) := ey_.trans (pkA1 i)
  rw [ey_]
  refine va_sld hx hb hX hbl hbA hS (i := nI (i + 1)) (vp_in_nI (n := i + 1) (N := L) (by omega) (by omega)) dL_law_519 ?_
  refine lv_topi (fun y_ ey_ => ?_)
  have ey_ : y_ = xs (i + 1) := ey_.trans (congrArg xs (nI_clamp (n := i + 1) (by omega)))
  rw [ey_]
  refine lv_aload_n hx hb dL_law_520 rfl (lv_at hl 3 rfl) ?_
  refine lv_iload_n hx hb dL_law_521 rfl (lv_at hl 0 rfl) ?_
  refine lv_iconst (v := 2) hx hb dL_law_522 (by decide) ?_
  refine lv_iadd hx hb dL_law_523 ?_
  refine lv_topi (fun y_ ey_ => ?_)
  have ey_ : y_ = nI (i + 2) := ey_.trans (pkA2 i)
  rw [ey_]
  refine va_sld hx hb hX hbl hbA hS (i := nI (i + 2)) (vp_in_nI (n := i + 2) (N := L) (by omega) (by omega)) dL_law_524 ?_
  refine lv_topi (fun y_ ey_ => ?_)
  have ey_ : y_ = xs (i + 2) := ey_.trans (congrArg xs (nI_clamp (n := i + 2) (by omega)))
  rw [ey_]
  refine jbL (nL := 4) (As := [.int (xs (i + 1)), .int (xs (i + 2))]) (rest := []) (X := 12) (i := 0) (wf := mW cB cI cJ cZ h0 a rs) hx hb hml hts hown hK hP hD hS hA hz hcc hZ (by decide) rfl (ckE_some e0) (sc_X11_changed l dC dI cB cI cJ cZ cS cO b K V fz F cs 0 (xs (i + 1)) (xs (i + 2)) r1 e1) (cwV 2 hts (gd_law (in_V kw_1619 kw_1620 kw_1621 kw_181 kc_X11_changed)) rfl rfl rfl (by decide +kernel) ⟨Nat.le_of_ble_eq_true rfl, Nat.le_of_ble_eq_true rfl⟩) rfl hl.1 (Nat.le_of_ble_eq_true rfl) ⟨by show kK cs ≤ 600000; omega, by show kM cs ≤ 7302250; omega⟩ dL_law_525 (fun H1 locs1 hP1 hD1 hS1 hz1 => ?_)
  refine lv_aload_n hx hb dL_law_528 rfl (lv_at hl 1 rfl) ?_
  refine lv_aload_n hx hb dL_law_529 rfl (lv_at hl 3 rfl) ?_
  refine lv_iload_n hx hb dL_law_530 rfl (lv_at hl 0 rfl) ?_
  refine lv_iconst (v := 1) hx hb dL_law_531 (by decide) ?_
  refine lv_iadd hx hb dL_law_532 ?_
  refine lv_topi (fun y_ ey_ => ?_)
  have ey_ : y_ = nI (i + 1) := ey_.trans (pkA1 i)
  rw [ey_]
  refine va_sld hx hb hX hbl hbA hS1 (i := nI (i + 1)) (vp_in_nI (n := i + 1) (N := L) (by omega) (by omega)) dL_law_533 ?_
  refine lv_topi (fun y_ ey_ => ?_)
  have ey_ : y_ = xs (i + 1) := ey_.trans (congrArg xs (nI_clamp (n := i + 1) (by omega)))
  rw [ey_]
  refine lv_aload_n hx hb dL_law_534 rfl (lv_at hl 3 rfl) ?_
  refine lv_iload_n hx hb dL_law_535 rfl (lv_at hl 0 rfl) ?_
  refine lv_iconst (v := 2) hx hb dL_law_536 (by decide) ?_
  refine lv_iadd hx hb dL_law_537 ?_
  refine lv_topi (fun y_ ey_ => ?_)
  have ey_ : y_ = nI (i + 2) := ey_.trans (pkA2 i)
  rw [ey_]
  refine va_sld hx hb hX hbl hbA hS1 (i := nI (i + 2)) (vp_in_nI (n := i + 2) (N := L) (by omega) (by omega)) dL_law_538 ?_
  refine lv_topi (fun y_ ey_ => ?_)
  have ey_ : y_ = xs (i + 2) := ey_.trans (congrArg xs (nI_clamp (n := i + 2) (by omega)))
  rw [ey_]
  refine jmL (b := b) (nL := 4) (As := [.int (xs (i + 1)), .int (xs (i + 2))]) (rest := [.long r1]) (wf := cW cB cI cJ cZ cS cO b cs) hx hb hml hts hown hK (va_P_sw hP1) (va_D_sw hD1) hS1 hA (by rw [hz1, hbe]) hZ (s_changed l dC dI cB cI cJ cZ h0 a K V fz F rs (xs (i + 1)) (xs (i + 2)) r2 e2) (cwV 2 hts (gd_law (in_V kw_2471 kw_2472 kw_2473 kw_191 kc_X12_changed)) rfl rfl rfl (by decide +kernel) ⟨Nat.le_of_ble_eq_true rfl, Nat.le_of_ble_eq_true rfl⟩) rfl hl.1 (Nat.le_of_ble_eq_true rfl) ⟨hR1, hR2⟩ dL_law_539 (fun H2 locs2 hP2 hD2 hS2 hz2 => ?_)
  refine W.lcmp hx hb dL_law_542 ?_
  refine lv_if_eq (tgt := 750) hx hb dL_law_543 (by decide) (fun c_ => ?_) (fun c_ => ?_)
  · exact kk H2 locs2 (va_P_sw hP2) (va_D_sw hD2) hS2 (hz2.trans hz1)
  · exact absurd ((lg_cmp_eq r1 r2).mpr hq) c_
set_option maxRecDepth 100000 in
theorem ls_13 {p : Program} {l : Launch} {e : Env} {s : State} {m : MethodId} {below : List Frame} {meth : Method} {c : Code} {dC : Nat → ClassId} {dI : Nat → Nat → Nat} {cB cI cJ cZ cS cO : ClassId} {bb L : Nat} {xs : Nat → Int32} {K V : Nat → Nat} {fz : Value} {A : Nat → Prop} {b h0 : Nat} {a : Nat → Nat} (C0 : lw_At p s m meth c bb L xs) (hZ : zE K V fz A s) (hA : ∀ q : Nat, s.heap.size ≤ q → A q) (hbA : ¬ A bb) (hbe : s.heap.size = b) (hK : va_K (dC, dI) vwCl [(cB, .byte), (cI, .int), (cJ, .long), (cZ, .boolean), (cS, .object "StreamQueries$Source"), (cO, .object "java/lang/Object")] s) {F i : Nat} {cs cs9 : CS} {rs rs9 : RS} {H : Heap} {locs : List Loc} {ls : Array Slot} (hi : i + 6 ≤ L) (hL : L ≤ 384) (hP : va_P (dC, dI) vwCl (cW cB cI cJ cZ cS cO b cs ++ mW cB cI cJ cZ h0 a rs) H) (hD : va_D A (cW cB cI cJ cZ cS cO b cs ++ mW cB cI cJ cZ h0 a rs)) (hS : va_S A s.heap H locs) (hz : H.size = b + kK cs) (hf : lk_13 F cs rs (xs (i + 1)) (xs (i + 2)) (xs (i + 3)) (xs (i + 4)) (xs (i + 5)) = some (cs9, rs9)) (hR1 : kK cs9 ≤ 600000) (hR2 : kM cs9 ≤ 7302250) (hl : lv_has ls 4 [(3, .int (nI i)), (2, .ref h0), (1, .ref (b + 0)), (0, .ref bb)]) (kk : ∀ (H1 : Heap) (locs1 : List Loc), va_P (dC, dI) vwCl (cW cB cI cJ cZ cS cO b cs9 ++ mW cB cI cJ cZ h0 a rs9) H1 → va_D A (cW cB cI cJ cZ cS cO b cs9 ++ mW cB cI cJ cZ h0 a rs9) → va_S A s.heap H1 locs1 → H1.size = b + kK cs9 → W p l e room_1 s m #[Value.ref bb] below meth c H1 locs1 (kK cs9) (kM cs9) (lw_Z below #[Value.ref bb] s) (F0 m 750 ls [])) : W p l e room_1 s m #[Value.ref bb] below meth c H locs (kK cs) (kM cs) (lw_Z below #[Value.ref bb] s) (F0 m 548 ls []) := by
  obtain ⟨hx, hb, hr, hml, hown, hts, hX, hbl, hlocks, hgv⟩ := id C0
  unfold lk_13 at hf
  obtain ⟨u0, e0, hf⟩ := ob hf
  obtain ⟨r1, e1, hf⟩ := ob hf
  obtain ⟨r2, e2, hf⟩ := ob hf
  have hf : (if r1 = r2 then some (cs, rs) else none) = some (cs9, rs9) := hf
  by_cases hq : r1 = r2
  case neg => rw [if_neg hq] at hf; cases hf
  rw [if_pos hq] at hf
  have hc9 : cs = cs9 := congrArg Prod.fst (Option.some.inj hf)
  have hr9 : rs = rs9 := congrArg Prod.snd (Option.some.inj hf)
  subst hc9
  subst hr9
  have hcc : s.heap.size + kK cs = b + kK cs := by rw [hbe]
  refine lv_aload_n hx hb dL_law_548 rfl (lv_at hl 2 rfl) ?_
  refine lv_aload_n hx hb dL_law_549 rfl (lv_at hl 3 rfl) ?_
  refine lv_iload_n hx hb dL_law_550 rfl (lv_at hl 0 rfl) ?_
  refine lv_iconst (v := 1) hx hb dL_law_551 (by decide) ?_
  refine lv_iadd hx hb dL_law_552 ?_
  refine lv_topi (fun y_ ey_ => ?_)
  have ey_ : y_ = nI (i + 1) := ey_.trans (pkA1 i)
  rw [ey_]
  refine va_sld hx hb hX hbl hbA hS (i := nI (i + 1)) (vp_in_nI (n := i + 1) (N := L) (by omega) (by omega)) dL_law_553 ?_
  refine lv_topi (fun y_ ey_ => ?_)
  have ey_ : y_ = xs (i + 1) := ey_.trans (congrArg xs (nI_clamp (n := i + 1) (by omega)))
  rw [ey_]
  refine lv_aload_n hx hb dL_law_554 rfl (lv_at hl 3 rfl) ?_
  refine lv_iload_n hx hb dL_law_555 rfl (lv_at hl 0 rfl) ?_
  refine lv_iconst (v := 2) hx hb dL_law_556 (by decide) ?_
  refine lv_iadd hx hb dL_law_557 ?_
  refine lv_topi (fun y_ ey_ => ?_)
  have ey_ : y_ = nI (i + 2) := ey_.trans (pkA2 i)
  rw [ey_]
  refine va_sld hx hb hX hbl hbA hS (i := nI (i + 2)) (vp_in_nI (n := i + 2) (N := L) (by omega) (by omega)) dL_law_558 ?_
  refine lv_topi (fun y_ ey_ => ?_)
  have ey_ : y_ = xs (i + 2) := ey_.trans (congrArg xs (nI_clamp (n := i + 2) (by omega)))
  rw [ey_]
  refine jbI (nL := 4) (As := [.int (xs (i + 1)), .int (xs (i + 2))]) (rest := []) (X := 12) (i := 0) (wf := mW cB cI cJ cZ h0 a rs) hx hb hml hts hown hK hP hD hS hA hz hcc hZ (by decide) rfl (ckE_some e0) (sc_X11_changedNull l dC dI cB cI cJ cZ cS cO b K V fz F cs 0 (xs (i + 1)) (xs (i + 2)) r1 e1) (cwV 2 hts (gd_law (in_V kw_1629 kw_1630 kw_1631 kw_181 kc_X11_changedNull)) rfl rfl rfl (by decide +kernel) ⟨Nat.le_of_ble_eq_true rfl, Nat.le_of_ble_eq_true rfl⟩) rfl hl.1 (Nat.le_of_ble_eq_true rfl) ⟨by show kK cs ≤ 600000; omega, by show kM cs ≤ 7302250; omega⟩ dL_law_559 (fun H1 locs1 hP1 hD1 hS1 hz1 => ?_)
  refine lv_aload_n hx hb dL_law_562 rfl (lv_at hl 1 rfl) ?_
  refine lv_aload_n hx hb dL_law_563 rfl (lv_at hl 3 rfl) ?_
  refine lv_iload_n hx hb dL_law_564 rfl (lv_at hl 0 rfl) ?_
  refine lv_iconst (v := 1) hx hb dL_law_565 (by decide) ?_
  refine lv_iadd hx hb dL_law_566 ?_
  refine lv_topi (fun y_ ey_ => ?_)
  have ey_ : y_ = nI (i + 1) := ey_.trans (pkA1 i)
  rw [ey_]
  refine va_sld hx hb hX hbl hbA hS1 (i := nI (i + 1)) (vp_in_nI (n := i + 1) (N := L) (by omega) (by omega)) dL_law_567 ?_
  refine lv_topi (fun y_ ey_ => ?_)
  have ey_ : y_ = xs (i + 1) := ey_.trans (congrArg xs (nI_clamp (n := i + 1) (by omega)))
  rw [ey_]
  refine lv_aload_n hx hb dL_law_568 rfl (lv_at hl 3 rfl) ?_
  refine lv_iload_n hx hb dL_law_569 rfl (lv_at hl 0 rfl) ?_
  refine lv_iconst (v := 2) hx hb dL_law_570 (by decide) ?_
  refine lv_iadd hx hb dL_law_571 ?_
  refine lv_topi (fun y_ ey_ => ?_)
  have ey_ : y_ = nI (i + 2) := ey_.trans (pkA2 i)
  rw [ey_]
  refine va_sld hx hb hX hbl hbA hS1 (i := nI (i + 2)) (vp_in_nI (n := i + 2) (N := L) (by omega) (by omega)) dL_law_572 ?_
  refine lv_topi (fun y_ ey_ => ?_)
  have ey_ : y_ = xs (i + 2) := ey_.trans (congrArg xs (nI_clamp (n := i + 2) (by omega)))
  rw [ey_]
  refine jmI (b := b) (nL := 4) (As := [.int (xs (i + 1)), .int (xs (i + 2))]) (rest := [.int r1]) (wf := cW cB cI cJ cZ cS cO b cs) hx hb hml hts hown hK (va_P_sw hP1) (va_D_sw hD1) hS1 hA (by rw [hz1, hbe]) hZ (s_changedNull l dC dI cB cI cJ cZ h0 a K V fz F rs (xs (i + 1)) (xs (i + 2)) r2 e2) (cwV 2 hts (gd_law (in_V kw_2479 kw_2480 kw_2481 kw_191 kc_X12_changedNull)) rfl rfl rfl (by decide +kernel) ⟨Nat.le_of_ble_eq_true rfl, Nat.le_of_ble_eq_true rfl⟩) rfl hl.1 (Nat.le_of_ble_eq_true rfl) ⟨hR1, hR2⟩ dL_law_573 (fun H2 locs2 hP2 hD2 hS2 hz2 => ?_)
  refine lv_icmp_eq (tgt := 750) hx hb dL_law_576 (by decide) (fun c_ => ?_) (fun c_ => ?_)
  · exact kk H2 locs2 (va_P_sw hP2) (va_D_sw hD2) hS2 (hz2.trans hz1)
  · exact absurd hq c_
set_option maxRecDepth 100000 in
theorem ls_14 {p : Program} {l : Launch} {e : Env} {s : State} {m : MethodId} {below : List Frame} {meth : Method} {c : Code} {dC : Nat → ClassId} {dI : Nat → Nat → Nat} {cB cI cJ cZ cS cO : ClassId} {bb L : Nat} {xs : Nat → Int32} {K V : Nat → Nat} {fz : Value} {A : Nat → Prop} {b h0 : Nat} {a : Nat → Nat} (C0 : lw_At p s m meth c bb L xs) (hZ : zE K V fz A s) (hA : ∀ q : Nat, s.heap.size ≤ q → A q) (hbA : ¬ A bb) (hbe : s.heap.size = b) (hK : va_K (dC, dI) vwCl [(cB, .byte), (cI, .int), (cJ, .long), (cZ, .boolean), (cS, .object "StreamQueries$Source"), (cO, .object "java/lang/Object")] s) {F i : Nat} {cs cs9 : CS} {rs rs9 : RS} {H : Heap} {locs : List Loc} {ls : Array Slot} (hi : i + 6 ≤ L) (hL : L ≤ 384) (hP : va_P (dC, dI) vwCl (cW cB cI cJ cZ cS cO b cs ++ mW cB cI cJ cZ h0 a rs) H) (hD : va_D A (cW cB cI cJ cZ cS cO b cs ++ mW cB cI cJ cZ h0 a rs)) (hS : va_S A s.heap H locs) (hz : H.size = b + kK cs) (hf : lk_14 F cs rs (xs (i + 1)) (xs (i + 2)) (xs (i + 3)) (xs (i + 4)) (xs (i + 5)) = some (cs9, rs9)) (hR1 : kK cs9 ≤ 600000) (hR2 : kM cs9 ≤ 7302250) (hl : lv_has ls 4 [(3, .int (nI i)), (2, .ref h0), (1, .ref (b + 0)), (0, .ref bb)]) (kk : ∀ (H1 : Heap) (locs1 : List Loc), va_P (dC, dI) vwCl (cW cB cI cJ cZ cS cO b cs9 ++ mW cB cI cJ cZ h0 a rs9) H1 → va_D A (cW cB cI cJ cZ cS cO b cs9 ++ mW cB cI cJ cZ h0 a rs9) → va_S A s.heap H1 locs1 → H1.size = b + kK cs9 → W p l e room_1 s m #[Value.ref bb] below meth c H1 locs1 (kK cs9) (kM cs9) (lw_Z below #[Value.ref bb] s) (F0 m 750 ls [])) : W p l e room_1 s m #[Value.ref bb] below meth c H locs (kK cs) (kM cs) (lw_Z below #[Value.ref bb] s) (F0 m 581 ls []) := by
  obtain ⟨hx, hb, hr, hml, hown, hts, hX, hbl, hlocks, hgv⟩ := id C0
  unfold lk_14 at hf
  obtain ⟨u0, e0, hf⟩ := ob hf
  obtain ⟨r1, e1, hf⟩ := ob hf
  obtain ⟨r2, e2, hf⟩ := ob hf
  have hf : (if r1 = r2 then some (cs, rs) else none) = some (cs9, rs9) := hf
  by_cases hq : r1 = r2
  case neg => rw [if_neg hq] at hf; cases hf
  rw [if_pos hq] at hf
  have hc9 : cs = cs9 := congrArg Prod.fst (Option.some.inj hf)
  have hr9 : rs = rs9 := congrArg Prod.snd (Option.some.inj hf)
  subst hc9
  subst hr9
  have hcc : s.heap.size + kK cs = b + kK cs := by rw [hbe]
  refine lv_aload_n hx hb dL_law_581 rfl (lv_at hl 2 rfl) ?_
  refine jbI (nL := 4) (As := []) (rest := []) (X := 12) (i := 0) (wf := mW cB cI cJ cZ h0 a rs) hx hb hml hts hown hK hP hD hS hA hz hcc hZ (by decide) rfl (ckE_some e0) (sc_X11_rows l dC dI cB cI cJ cZ cS cO b K V fz F cs 0  r1 e1) (cwV 0 hts (gd_law (in_V kw_1634 kw_1635 kw_1636 kw_181 kc_X11_rows)) rfl rfl rfl (by decide +kernel) ⟨Nat.le_of_ble_eq_true rfl, Nat.le_of_ble_eq_true rfl⟩) rfl hl.1 (Nat.le_of_ble_eq_true rfl) ⟨by show kK cs ≤ 600000; omega, by show kM cs ≤ 7302250; omega⟩ dL_law_582 (fun H1 locs1 hP1 hD1 hS1 hz1 => ?_)
  refine lv_aload_n hx hb dL_law_585 rfl (lv_at hl 1 rfl) ?_
  refine jmI (b := b) (nL := 4) (As := []) (rest := [.int r1]) (wf := cW cB cI cJ cZ cS cO b cs) hx hb hml hts hown hK (va_P_sw hP1) (va_D_sw hD1) hS1 hA (by rw [hz1, hbe]) hZ (s_rows l dC dI cB cI cJ cZ h0 a K V fz F rs  r2 e2) (cwV 0 hts (gd_law (in_V kw_2483 kw_2484 kw_2485 kw_191 kc_X12_rows)) rfl rfl rfl (by decide +kernel) ⟨Nat.le_of_ble_eq_true rfl, Nat.le_of_ble_eq_true rfl⟩) rfl hl.1 (Nat.le_of_ble_eq_true rfl) ⟨hR1, hR2⟩ dL_law_586 (fun H2 locs2 hP2 hD2 hS2 hz2 => ?_)
  refine lv_icmp_eq (tgt := 750) hx hb dL_law_589 (by decide) (fun c_ => ?_) (fun c_ => ?_)
  · exact kk H2 locs2 (va_P_sw hP2) (va_D_sw hD2) hS2 (hz2.trans hz1)
  · exact absurd hq c_
set_option maxRecDepth 100000 in
theorem ls_15 {p : Program} {l : Launch} {e : Env} {s : State} {m : MethodId} {below : List Frame} {meth : Method} {c : Code} {dC : Nat → ClassId} {dI : Nat → Nat → Nat} {cB cI cJ cZ cS cO : ClassId} {bb L : Nat} {xs : Nat → Int32} {K V : Nat → Nat} {fz : Value} {A : Nat → Prop} {b h0 : Nat} {a : Nat → Nat} (C0 : lw_At p s m meth c bb L xs) (hZ : zE K V fz A s) (hA : ∀ q : Nat, s.heap.size ≤ q → A q) (hbA : ¬ A bb) (hbe : s.heap.size = b) (hK : va_K (dC, dI) vwCl [(cB, .byte), (cI, .int), (cJ, .long), (cZ, .boolean), (cS, .object "StreamQueries$Source"), (cO, .object "java/lang/Object")] s) {F i : Nat} {cs cs9 : CS} {rs rs9 : RS} {H : Heap} {locs : List Loc} {ls : Array Slot} (hi : i + 6 ≤ L) (hL : L ≤ 384) (hP : va_P (dC, dI) vwCl (cW cB cI cJ cZ cS cO b cs ++ mW cB cI cJ cZ h0 a rs) H) (hD : va_D A (cW cB cI cJ cZ cS cO b cs ++ mW cB cI cJ cZ h0 a rs)) (hS : va_S A s.heap H locs) (hz : H.size = b + kK cs) (hf : lk_15 F cs rs (xs (i + 1)) (xs (i + 2)) (xs (i + 3)) (xs (i + 4)) (xs (i + 5)) = some (cs9, rs9)) (hR1 : kK cs9 ≤ 600000) (hR2 : kM cs9 ≤ 7302250) (hl : lv_has ls 4 [(3, .int (nI i)), (2, .ref h0), (1, .ref (b + 0)), (0, .ref bb)]) (kk : ∀ (H1 : Heap) (locs1 : List Loc), va_P (dC, dI) vwCl (cW cB cI cJ cZ cS cO b cs9 ++ mW cB cI cJ cZ h0 a rs9) H1 → va_D A (cW cB cI cJ cZ cS cO b cs9 ++ mW cB cI cJ cZ h0 a rs9) → va_S A s.heap H1 locs1 → H1.size = b + kK cs9 → W p l e room_1 s m #[Value.ref bb] below meth c H1 locs1 (kK cs9) (kM cs9) (lw_Z below #[Value.ref bb] s) (F0 m 750 ls [])) : W p l e room_1 s m #[Value.ref bb] below meth c H locs (kK cs) (kM cs) (lw_Z below #[Value.ref bb] s) (F0 m 594 ls []) := by
  obtain ⟨hx, hb, hr, hml, hown, hts, hX, hbl, hlocks, hgv⟩ := id C0
  unfold lk_15 at hf
  obtain ⟨u0, e0, hf⟩ := ob hf
  obtain ⟨r1, e1, hf⟩ := ob hf
  obtain ⟨r2, e2, hf⟩ := ob hf
  have hf : (if r1 = r2 then some (cs, rs) else none) = some (cs9, rs9) := hf
  by_cases hq : r1 = r2
  case neg => rw [if_neg hq] at hf; cases hf
  rw [if_pos hq] at hf
  have hc9 : cs = cs9 := congrArg Prod.fst (Option.some.inj hf)
  have hr9 : rs = rs9 := congrArg Prod.snd (Option.some.inj hf)
  subst hc9
  subst hr9
  have hcc : s.heap.size + kK cs = b + kK cs := by rw [hbe]
  refine lv_aload_n hx hb dL_law_594 rfl (lv_at hl 2 rfl) ?_
  refine lv_aload_n hx hb dL_law_595 rfl (lv_at hl 3 rfl) ?_
  refine lv_iload_n hx hb dL_law_596 rfl (lv_at hl 0 rfl) ?_
  refine lv_iconst (v := 1) hx hb dL_law_597 (by decide) ?_
  refine lv_iadd hx hb dL_law_598 ?_
  refine lv_topi (fun y_ ey_ => ?_)
  have ey_ : y_ = nI (i + 1) := ey_.trans (pkA1 i)
  rw [ey_]
  refine va_sld hx hb hX hbl hbA hS (i := nI (i + 1)) (vp_in_nI (n := i + 1) (N := L) (by omega) (by omega)) dL_law_599 ?_
  refine lv_topi (fun y_ ey_ => ?_)
  have ey_ : y_ = xs (i + 1) := ey_.trans (congrArg xs (nI_clamp (n := i + 1) (by omega)))
  rw [ey_]
  refine lv_aload_n hx hb dL_law_600 rfl (lv_at hl 3 rfl) ?_
  refine lv_iload_n hx hb dL_law_601 rfl (lv_at hl 0 rfl) ?_
  refine lv_iconst (v := 2) hx hb dL_law_602 (by decide) ?_
  refine lv_iadd hx hb dL_law_603 ?_
  refine lv_topi (fun y_ ey_ => ?_)
  have ey_ : y_ = nI (i + 2) := ey_.trans (pkA2 i)
  rw [ey_]
  refine va_sld hx hb hX hbl hbA hS (i := nI (i + 2)) (vp_in_nI (n := i + 2) (N := L) (by omega) (by omega)) dL_law_604 ?_
  refine lv_topi (fun y_ ey_ => ?_)
  have ey_ : y_ = xs (i + 2) := ey_.trans (congrArg xs (nI_clamp (n := i + 2) (by omega)))
  rw [ey_]
  refine jbL (nL := 4) (As := [.int (xs (i + 1)), .int (xs (i + 2))]) (rest := []) (X := 12) (i := 0) (wf := mW cB cI cJ cZ h0 a rs) hx hb hml hts hown hK hP hD hS hA hz hcc hZ (by decide) rfl (ckE_some e0) (sc_X11_at l dC dI cB cI cJ cZ cS cO b K V fz F cs 0 (xs (i + 1)) (xs (i + 2)) r1 e1) (cwV 2 hts (gd_law (in_V kw_1638 kw_1639 kw_1640 kw_181 kc_X11_at)) rfl rfl rfl (by decide +kernel) ⟨Nat.le_of_ble_eq_true rfl, Nat.le_of_ble_eq_true rfl⟩) rfl hl.1 (Nat.le_of_ble_eq_true rfl) ⟨by show kK cs ≤ 600000; omega, by show kM cs ≤ 7302250; omega⟩ dL_law_605 (fun H1 locs1 hP1 hD1 hS1 hz1 => ?_)
  refine lv_aload_n hx hb dL_law_608 rfl (lv_at hl 1 rfl) ?_
  refine lv_aload_n hx hb dL_law_609 rfl (lv_at hl 3 rfl) ?_
  refine lv_iload_n hx hb dL_law_610 rfl (lv_at hl 0 rfl) ?_
  refine lv_iconst (v := 1) hx hb dL_law_611 (by decide) ?_
  refine lv_iadd hx hb dL_law_612 ?_
  refine lv_topi (fun y_ ey_ => ?_)
  have ey_ : y_ = nI (i + 1) := ey_.trans (pkA1 i)
  rw [ey_]
  refine va_sld hx hb hX hbl hbA hS1 (i := nI (i + 1)) (vp_in_nI (n := i + 1) (N := L) (by omega) (by omega)) dL_law_613 ?_
  refine lv_topi (fun y_ ey_ => ?_)
  have ey_ : y_ = xs (i + 1) := ey_.trans (congrArg xs (nI_clamp (n := i + 1) (by omega)))
  rw [ey_]
  refine lv_aload_n hx hb dL_law_614 rfl (lv_at hl 3 rfl) ?_
  refine lv_iload_n hx hb dL_law_615 rfl (lv_at hl 0 rfl) ?_
  refine lv_iconst (v := 2) hx hb dL_law_616 (by decide) ?_
  refine lv_iadd hx hb dL_law_617 ?_
  refine lv_topi (fun y_ ey_ => ?_)
  have ey_ : y_ = nI (i + 2) := ey_.trans (pkA2 i)
  rw [ey_]
  refine va_sld hx hb hX hbl hbA hS1 (i := nI (i + 2)) (vp_in_nI (n := i + 2) (N := L) (by omega) (by omega)) dL_law_618 ?_
  refine lv_topi (fun y_ ey_ => ?_)
  have ey_ : y_ = xs (i + 2) := ey_.trans (congrArg xs (nI_clamp (n := i + 2) (by omega)))
  rw [ey_]
  refine jmL (b := b) (nL := 4) (As := [.int (xs (i + 1)), .int (xs (i + 2))]) (rest := [.long r1]) (wf := cW cB cI cJ cZ cS cO b cs) hx hb hml hts hown hK (va_P_sw hP1) (va_D_sw hD1) hS1 hA (by rw [hz1, hbe]) hZ (s_at l dC dI cB cI cJ cZ h0 a K V fz F rs (xs (i + 1)) (xs (i + 2)) r2 e2) (cwV 2 hts (gd_law (in_V kw_2487 kw_2488 kw_2489 kw_191 kc_X12_at)) rfl rfl rfl (by decide +kernel) ⟨Nat.le_of_ble_eq_true rfl, Nat.le_of_ble_eq_true rfl⟩) rfl hl.1 (Nat.le_of_ble_eq_true rfl) ⟨hR1, hR2⟩ dL_law_619 (fun H2 locs2 hP2 hD2 hS2 hz2 => ?_)
  refine W.lcmp hx hb dL_law_622 ?_
  refine lv_if_eq (tgt := 750) hx hb dL_law_623 (by decide) (fun c_ => ?_) (fun c_ => ?_)
  · exact kk H2 locs2 (va_P_sw hP2) (va_D_sw hD2) hS2 (hz2.trans hz1)
  · exact absurd ((lg_cmp_eq r1 r2).mpr hq) c_
