set_option maxRecDepth 100000 in
theorem ls_16 {p : Program} {l : Launch} {e : Env} {s : State} {m : MethodId} {below : List Frame} {meth : Method} {c : Code} {dC : Nat → ClassId} {dI : Nat → Nat → Nat} {cB cI cJ cZ cS cO : ClassId} {bb L : Nat} {xs : Nat → Int32} {K V : Nat → Nat} {fz : Value} {A : Nat → Prop} {b h0 : Nat} {a : Nat → Nat} (C0 : lw_At p s m meth c bb L xs) (hZ : zE K V fz A s) (hA : ∀ q : Nat, s.heap.size ≤ q → A q) (hbA : ¬ A bb) (hbe : s.heap.size = b) (hK : va_K (dC, dI) vwCl [(cB, .byte), (cI, .int), (cJ, .long), (cZ, .boolean), (cS, .object "StreamQueries$Source"), (cO, .object "java/lang/Object")] s) {F i : Nat} {cs cs9 : CS} {rs rs9 : RS} {H : Heap} {locs : List Loc} {ls : Array Slot} (hi : i + 6 ≤ L) (hL : L ≤ 384) (hP : va_P (dC, dI) vwCl (cW cB cI cJ cZ cS cO b cs ++ mW cB cI cJ cZ h0 a rs) H) (hD : va_D A (cW cB cI cJ cZ cS cO b cs ++ mW cB cI cJ cZ h0 a rs)) (hS : va_S A s.heap H locs) (hz : H.size = b + kK cs) (hf : lk_16 F cs rs (xs (i + 1)) (xs (i + 2)) (xs (i + 3)) (xs (i + 4)) (xs (i + 5)) = some (cs9, rs9)) (hR1 : kK cs9 ≤ 600000) (hR2 : kM cs9 ≤ 7302250) (hl : lv_has ls 4 [(3, .int (nI i)), (2, .ref h0), (1, .ref (b + 0)), (0, .ref bb)]) (kk : ∀ (H1 : Heap) (locs1 : List Loc), va_P (dC, dI) vwCl (cW cB cI cJ cZ cS cO b cs9 ++ mW cB cI cJ cZ h0 a rs9) H1 → va_D A (cW cB cI cJ cZ cS cO b cs9 ++ mW cB cI cJ cZ h0 a rs9) → va_S A s.heap H1 locs1 → H1.size = b + kK cs9 → W p l e room_1 s m #[Value.ref bb] below meth c H1 locs1 (kK cs9) (kM cs9) (lw_Z below #[Value.ref bb] s) (F0 m 750 ls [])) : W p l e room_1 s m #[Value.ref bb] below meth c H locs (kK cs) (kM cs) (lw_Z below #[Value.ref bb] s) (F0 m 628 ls []) := by
  obtain ⟨hx, hb, hr, hml, hown, hts, hX, hbl, hlocks, hgv⟩ := id C0
  unfold lk_16 at hf
  obtain ⟨u0, e0, hf⟩ := ob hf
  obtain ⟨r1, e1, hf⟩ := ob hf
  obtain ⟨r2, e2, hf⟩ := ob hf
  have hf : (if r1 = r2 then some (cs, rs) else none) = some (cs9, rs9) := hf
  by_cases hq : r1 = r2
  case neg => rw [if_neg hq] at hf; cases hf
  rw [if_pos hq] at hf
  have hc9 : cs = cs9 := congrArg Prod.fst (Option.some.inj hf)
  have hr9 : rs = rs9 := congrArg Prod.snd (Option.some.inj hf)
  subst hc9
  subst hr9
  have hcc : s.heap.size + kK cs = b + kK cs := by rw [hbe]
  refine lv_aload_n hx hb dL_law_628 rfl (lv_at hl 2 rfl) ?_
  refine lv_aload_n hx hb dL_law_629 rfl (lv_at hl 3 rfl) ?_
  refine lv_iload_n hx hb dL_law_630 rfl (lv_at hl 0 rfl) ?_
  refine lv_iconst (v := 1) hx hb dL_law_631 (by decide) ?_
  refine lv_iadd hx hb dL_law_632 ?_
  refine lv_topi (fun y_ ey_ => ?_)
  have ey_ : y_ = nI (i + 1) := ey_.trans (pkA1 i)
  rw [ey_]
  refine va_sld hx hb hX hbl hbA hS (i := nI (i + 1)) (vp_in_nI (n := i + 1) (N := L) (by omega) (by omega)) dL_law_633 ?_
  refine lv_topi (fun y_ ey_ => ?_)
  have ey_ : y_ = xs (i + 1) := ey_.trans (congrArg xs (nI_clamp (n := i + 1) (by omega)))
  rw [ey_]
  refine lv_aload_n hx hb dL_law_634 rfl (lv_at hl 3 rfl) ?_
  refine lv_iload_n hx hb dL_law_635 rfl (lv_at hl 0 rfl) ?_
  refine lv_iconst (v := 2) hx hb dL_law_636 (by decide) ?_
  refine lv_iadd hx hb dL_law_637 ?_
  refine lv_topi (fun y_ ey_ => ?_)
  have ey_ : y_ = nI (i + 2) := ey_.trans (pkA2 i)
  rw [ey_]
  refine va_sld hx hb hX hbl hbA hS (i := nI (i + 2)) (vp_in_nI (n := i + 2) (N := L) (by omega) (by omega)) dL_law_638 ?_
  refine lv_topi (fun y_ ey_ => ?_)
  have ey_ : y_ = xs (i + 2) := ey_.trans (congrArg xs (nI_clamp (n := i + 2) (by omega)))
  rw [ey_]
  refine jbI (nL := 4) (As := [.int (xs (i + 1)), .int (xs (i + 2))]) (rest := []) (X := 12) (i := 0) (wf := mW cB cI cJ cZ h0 a rs) hx hb hml hts hown hK hP hD hS hA hz hcc hZ (by decide) rfl (ckE_some e0) (sc_X11_isNull l dC dI cB cI cJ cZ cS cO b K V fz F cs 0 (xs (i + 1)) (xs (i + 2)) r1 e1) (cwV 2 hts (gd_law (in_V kw_1650 kw_1651 kw_1652 kw_181 kc_X11_isNull)) rfl rfl rfl (by decide +kernel) ⟨Nat.le_of_ble_eq_true rfl, Nat.le_of_ble_eq_true rfl⟩) rfl hl.1 (Nat.le_of_ble_eq_true rfl) ⟨by show kK cs ≤ 600000; omega, by show kM cs ≤ 7302250; omega⟩ dL_law_639 (fun H1 locs1 hP1 hD1 hS1 hz1 => ?_)
  refine lv_aload_n hx hb dL_law_642 rfl (lv_at hl 1 rfl) ?_
  refine lv_aload_n hx hb dL_law_643 rfl (lv_at hl 3 rfl) ?_
  refine lv_iload_n hx hb dL_law_644 rfl (lv_at hl 0 rfl) ?_
  refine lv_iconst (v := 1) hx hb dL_law_645 (by decide) ?_
  refine lv_iadd hx hb dL_law_646 ?_
  refine lv_topi (fun y_ ey_ => ?_)
  have ey_ : y_ = nI (i + 1) := ey_.trans (pkA1 i)
  rw [ey_]
  refine va_sld hx hb hX hbl hbA hS1 (i := nI (i + 1)) (vp_in_nI (n := i + 1) (N := L) (by omega) (by omega)) dL_law_647 ?_
  refine lv_topi (fun y_ ey_ => ?_)
  have ey_ : y_ = xs (i + 1) := ey_.trans (congrArg xs (nI_clamp (n := i + 1) (by omega)))
  rw [ey_]
  refine lv_aload_n hx hb dL_law_648 rfl (lv_at hl 3 rfl) ?_
  refine lv_iload_n hx hb dL_law_649 rfl (lv_at hl 0 rfl) ?_
  refine lv_iconst (v := 2) hx hb dL_law_650 (by decide) ?_
  refine lv_iadd hx hb dL_law_651 ?_
  refine lv_topi (fun y_ ey_ => ?_)
  have ey_ : y_ = nI (i + 2) := ey_.trans (pkA2 i)
  rw [ey_]
  refine va_sld hx hb hX hbl hbA hS1 (i := nI (i + 2)) (vp_in_nI (n := i + 2) (N := L) (by omega) (by omega)) dL_law_652 ?_
  refine lv_topi (fun y_ ey_ => ?_)
  have ey_ : y_ = xs (i + 2) := ey_.trans (congrArg xs (nI_clamp (n := i + 2) (by omega)))
  rw [ey_]
  refine jmI (b := b) (nL := 4) (As := [.int (xs (i + 1)), .int (xs (i + 2))]) (rest := [.int r1]) (wf := cW cB cI cJ cZ cS cO b cs) hx hb hml hts hown hK (va_P_sw hP1) (va_D_sw hD1) hS1 hA (by rw [hz1, hbe]) hZ (s_isNull l dC dI cB cI cJ cZ h0 a K V fz F rs (xs (i + 1)) (xs (i + 2)) r2 e2) (cwV 2 hts (gd_law (in_V kw_2495 kw_2496 kw_2497 kw_191 kc_X12_isNull)) rfl rfl rfl (by decide +kernel) ⟨Nat.le_of_ble_eq_true rfl, Nat.le_of_ble_eq_true rfl⟩) rfl hl.1 (Nat.le_of_ble_eq_true rfl) ⟨hR1, hR2⟩ dL_law_653 (fun H2 locs2 hP2 hD2 hS2 hz2 => ?_)
  refine lv_icmp_eq (tgt := 750) hx hb dL_law_656 (by decide) (fun c_ => ?_) (fun c_ => ?_)
  · exact kk H2 locs2 (va_P_sw hP2) (va_D_sw hD2) hS2 (hz2.trans hz1)
  · exact absurd hq c_
set_option maxRecDepth 100000 in
theorem ls_17 {p : Program} {l : Launch} {e : Env} {s : State} {m : MethodId} {below : List Frame} {meth : Method} {c : Code} {dC : Nat → ClassId} {dI : Nat → Nat → Nat} {cB cI cJ cZ cS cO : ClassId} {bb L : Nat} {xs : Nat → Int32} {K V : Nat → Nat} {fz : Value} {A : Nat → Prop} {b h0 : Nat} {a : Nat → Nat} (C0 : lw_At p s m meth c bb L xs) (hZ : zE K V fz A s) (hA : ∀ q : Nat, s.heap.size ≤ q → A q) (hbA : ¬ A bb) (hbe : s.heap.size = b) (hK : va_K (dC, dI) vwCl [(cB, .byte), (cI, .int), (cJ, .long), (cZ, .boolean), (cS, .object "StreamQueries$Source"), (cO, .object "java/lang/Object")] s) {F i : Nat} {cs cs9 : CS} {rs rs9 : RS} {H : Heap} {locs : List Loc} {ls : Array Slot} (hi : i + 6 ≤ L) (hL : L ≤ 384) (hP : va_P (dC, dI) vwCl (cW cB cI cJ cZ cS cO b cs ++ mW cB cI cJ cZ h0 a rs) H) (hD : va_D A (cW cB cI cJ cZ cS cO b cs ++ mW cB cI cJ cZ h0 a rs)) (hS : va_S A s.heap H locs) (hz : H.size = b + kK cs) (hf : lk_17 F cs rs (xs (i + 1)) (xs (i + 2)) (xs (i + 3)) (xs (i + 4)) (xs (i + 5)) = some (cs9, rs9)) (hR1 : kK cs9 ≤ 600000) (hR2 : kM cs9 ≤ 7302250) (hl : lv_has ls 4 [(3, .int (nI i)), (2, .ref h0), (1, .ref (b + 0)), (0, .ref bb)]) (kk : ∀ (H1 : Heap) (locs1 : List Loc), va_P (dC, dI) vwCl (cW cB cI cJ cZ cS cO b cs9 ++ mW cB cI cJ cZ h0 a rs9) H1 → va_D A (cW cB cI cJ cZ cS cO b cs9 ++ mW cB cI cJ cZ h0 a rs9) → va_S A s.heap H1 locs1 → H1.size = b + kK cs9 → W p l e room_1 s m #[Value.ref bb] below meth c H1 locs1 (kK cs9) (kM cs9) (lw_Z below #[Value.ref bb] s) (F0 m 750 ls [])) : W p l e room_1 s m #[Value.ref bb] below meth c H locs (kK cs) (kM cs) (lw_Z below #[Value.ref bb] s) (F0 m 661 ls []) := by
  obtain ⟨hx, hb, hr, hml, hown, hts, hX, hbl, hlocks, hgv⟩ := id C0
  unfold lk_17 at hf
  obtain ⟨u0, e0, hf⟩ := ob hf
  obtain ⟨r1, e1, hf⟩ := ob hf
  obtain ⟨r2, e2, hf⟩ := ob hf
  have hf : (if r1 = r2 then some (cs, rs) else none) = some (cs9, rs9) := hf
  by_cases hq : r1 = r2
  case neg => rw [if_neg hq] at hf; cases hf
  rw [if_pos hq] at hf
  have hc9 : cs = cs9 := congrArg Prod.fst (Option.some.inj hf)
  have hr9 : rs = rs9 := congrArg Prod.snd (Option.some.inj hf)
  subst hc9
  subst hr9
  have hcc : s.heap.size + kK cs = b + kK cs := by rw [hbe]
  refine lv_aload_n hx hb dL_law_661 rfl (lv_at hl 2 rfl) ?_
  refine lv_aload_n hx hb dL_law_662 rfl (lv_at hl 3 rfl) ?_
  refine lv_iload_n hx hb dL_law_663 rfl (lv_at hl 0 rfl) ?_
  refine lv_iconst (v := 1) hx hb dL_law_664 (by decide) ?_
  refine lv_iadd hx hb dL_law_665 ?_
  refine lv_topi (fun y_ ey_ => ?_)
  have ey_ : y_ = nI (i + 1) := ey_.trans (pkA1 i)
  rw [ey_]
  refine va_sld hx hb hX hbl hbA hS (i := nI (i + 1)) (vp_in_nI (n := i + 1) (N := L) (by omega) (by omega)) dL_law_666 ?_
  refine lv_topi (fun y_ ey_ => ?_)
  have ey_ : y_ = xs (i + 1) := ey_.trans (congrArg xs (nI_clamp (n := i + 1) (by omega)))
  rw [ey_]
  refine jbI (nL := 4) (As := [.int (xs (i + 1))]) (rest := []) (X := 12) (i := 0) (wf := mW cB cI cJ cZ h0 a rs) hx hb hml hts hown hK hP hD hS hA hz hcc hZ (by decide) rfl (ckE_some e0) (sc_X11_type l dC dI cB cI cJ cZ cS cO b K V fz F cs 0 (xs (i + 1)) r1 e1) (cwV 1 hts (gd_law (in_V kw_1654 kw_1655 kw_1656 kw_181 kc_X11_type)) rfl rfl rfl (by decide +kernel) ⟨Nat.le_of_ble_eq_true rfl, Nat.le_of_ble_eq_true rfl⟩) rfl hl.1 (Nat.le_of_ble_eq_true rfl) ⟨by show kK cs ≤ 600000; omega, by show kM cs ≤ 7302250; omega⟩ dL_law_667 (fun H1 locs1 hP1 hD1 hS1 hz1 => ?_)
  refine lv_aload_n hx hb dL_law_670 rfl (lv_at hl 1 rfl) ?_
  refine lv_aload_n hx hb dL_law_671 rfl (lv_at hl 3 rfl) ?_
  refine lv_iload_n hx hb dL_law_672 rfl (lv_at hl 0 rfl) ?_
  refine lv_iconst (v := 1) hx hb dL_law_673 (by decide) ?_
  refine lv_iadd hx hb dL_law_674 ?_
  refine lv_topi (fun y_ ey_ => ?_)
  have ey_ : y_ = nI (i + 1) := ey_.trans (pkA1 i)
  rw [ey_]
  refine va_sld hx hb hX hbl hbA hS1 (i := nI (i + 1)) (vp_in_nI (n := i + 1) (N := L) (by omega) (by omega)) dL_law_675 ?_
  refine lv_topi (fun y_ ey_ => ?_)
  have ey_ : y_ = xs (i + 1) := ey_.trans (congrArg xs (nI_clamp (n := i + 1) (by omega)))
  rw [ey_]
  refine jmI (b := b) (nL := 4) (As := [.int (xs (i + 1))]) (rest := [.int r1]) (wf := cW cB cI cJ cZ cS cO b cs) hx hb hml hts hown hK (va_P_sw hP1) (va_D_sw hD1) hS1 hA (by rw [hz1, hbe]) hZ (s_type l dC dI cB cI cJ cZ h0 a K V fz F rs (xs (i + 1)) r2 e2) (cwV 1 hts (gd_law (in_V kw_2499 kw_2500 kw_2501 kw_191 kc_X12_type)) rfl rfl rfl (by decide +kernel) ⟨Nat.le_of_ble_eq_true rfl, Nat.le_of_ble_eq_true rfl⟩) rfl hl.1 (Nat.le_of_ble_eq_true rfl) ⟨hR1, hR2⟩ dL_law_676 (fun H2 locs2 hP2 hD2 hS2 hz2 => ?_)
  refine lv_icmp_eq (tgt := 750) hx hb dL_law_679 (by decide) (fun c_ => ?_) (fun c_ => ?_)
  · exact kk H2 locs2 (va_P_sw hP2) (va_D_sw hD2) hS2 (hz2.trans hz1)
  · exact absurd hq c_
set_option maxRecDepth 100000 in
theorem ls_18 {p : Program} {l : Launch} {e : Env} {s : State} {m : MethodId} {below : List Frame} {meth : Method} {c : Code} {dC : Nat → ClassId} {dI : Nat → Nat → Nat} {cB cI cJ cZ cS cO : ClassId} {bb L : Nat} {xs : Nat → Int32} {K V : Nat → Nat} {fz : Value} {A : Nat → Prop} {b h0 : Nat} {a : Nat → Nat} (C0 : lw_At p s m meth c bb L xs) (hZ : zE K V fz A s) (hA : ∀ q : Nat, s.heap.size ≤ q → A q) (hbA : ¬ A bb) (hbe : s.heap.size = b) (hK : va_K (dC, dI) vwCl [(cB, .byte), (cI, .int), (cJ, .long), (cZ, .boolean), (cS, .object "StreamQueries$Source"), (cO, .object "java/lang/Object")] s) {F i : Nat} {cs cs9 : CS} {rs rs9 : RS} {H : Heap} {locs : List Loc} {ls : Array Slot} (hi : i + 6 ≤ L) (hL : L ≤ 384) (hP : va_P (dC, dI) vwCl (cW cB cI cJ cZ cS cO b cs ++ mW cB cI cJ cZ h0 a rs) H) (hD : va_D A (cW cB cI cJ cZ cS cO b cs ++ mW cB cI cJ cZ h0 a rs)) (hS : va_S A s.heap H locs) (hz : H.size = b + kK cs) (hf : lk_18 F cs rs (xs (i + 1)) (xs (i + 2)) (xs (i + 3)) (xs (i + 4)) (xs (i + 5)) = some (cs9, rs9)) (hR1 : kK cs9 ≤ 600000) (hR2 : kM cs9 ≤ 7302250) (hl : lv_has ls 4 [(3, .int (nI i)), (2, .ref h0), (1, .ref (b + 0)), (0, .ref bb)]) (kk : ∀ (H1 : Heap) (locs1 : List Loc), va_P (dC, dI) vwCl (cW cB cI cJ cZ cS cO b cs9 ++ mW cB cI cJ cZ h0 a rs9) H1 → va_D A (cW cB cI cJ cZ cS cO b cs9 ++ mW cB cI cJ cZ h0 a rs9) → va_S A s.heap H1 locs1 → H1.size = b + kK cs9 → W p l e room_1 s m #[Value.ref bb] below meth c H1 locs1 (kK cs9) (kM cs9) (lw_Z below #[Value.ref bb] s) (F0 m 750 ls [])) : W p l e room_1 s m #[Value.ref bb] below meth c H locs (kK cs) (kM cs) (lw_Z below #[Value.ref bb] s) (F0 m 684 ls []) := by
  obtain ⟨hx, hb, hr, hml, hown, hts, hX, hbl, hlocks, hgv⟩ := id C0
  unfold lk_18 at hf
  obtain ⟨u0, e0, hf⟩ := ob hf
  obtain ⟨⟨cs1, r1⟩, e1, hf⟩ := ob hf
  obtain ⟨r2, e2, hf⟩ := ob hf
  have hf : (if r1 = r2 then some (cs1, rs) else none) = some (cs9, rs9) := hf
  by_cases hq : r1 = r2
  case neg => rw [if_neg hq] at hf; cases hf
  rw [if_pos hq] at hf
  have hc9 : cs1 = cs9 := congrArg Prod.fst (Option.some.inj hf)
  have hr9 : rs = rs9 := congrArg Prod.snd (Option.some.inj hf)
  subst hc9
  subst hr9
  have hmo0 := mo_c_X11_three F cs 0 (xs (i + 1)) (xs (i + 2)) (xs (i + 3)) cs1 r1 e1
  have hmo : kK cs1 = kK cs := congrArg Prod.fst hmo0
  have hmo2 : kM cs1 = kM cs := congrArg (fun z => z.2.1) hmo0
  have hcc : s.heap.size + kK cs = b + kK cs := by rw [hbe]
  refine lv_aload_n hx hb dL_law_684 rfl (lv_at hl 2 rfl) ?_
  refine lv_aload_n hx hb dL_law_685 rfl (lv_at hl 3 rfl) ?_
  refine lv_iload_n hx hb dL_law_686 rfl (lv_at hl 0 rfl) ?_
  refine lv_iconst (v := 1) hx hb dL_law_687 (by decide) ?_
  refine lv_iadd hx hb dL_law_688 ?_
  refine lv_topi (fun y_ ey_ => ?_)
  have ey_ : y_ = nI (i + 1) := ey_.trans (pkA1 i)
  rw [ey_]
  refine va_sld hx hb hX hbl hbA hS (i := nI (i + 1)) (vp_in_nI (n := i + 1) (N := L) (by omega) (by omega)) dL_law_689 ?_
  refine lv_topi (fun y_ ey_ => ?_)
  have ey_ : y_ = xs (i + 1) := ey_.trans (congrArg xs (nI_clamp (n := i + 1) (by omega)))
  rw [ey_]
  refine lv_aload_n hx hb dL_law_690 rfl (lv_at hl 3 rfl) ?_
  refine lv_iload_n hx hb dL_law_691 rfl (lv_at hl 0 rfl) ?_
  refine lv_iconst (v := 2) hx hb dL_law_692 (by decide) ?_
  refine lv_iadd hx hb dL_law_693 ?_
  refine lv_topi (fun y_ ey_ => ?_)
  have ey_ : y_ = nI (i + 2) := ey_.trans (pkA2 i)
  rw [ey_]
  refine va_sld hx hb hX hbl hbA hS (i := nI (i + 2)) (vp_in_nI (n := i + 2) (N := L) (by omega) (by omega)) dL_law_694 ?_
  refine lv_topi (fun y_ ey_ => ?_)
  have ey_ : y_ = xs (i + 2) := ey_.trans (congrArg xs (nI_clamp (n := i + 2) (by omega)))
  rw [ey_]
  refine lv_aload_n hx hb dL_law_695 rfl (lv_at hl 3 rfl) ?_
  refine lv_iload_n hx hb dL_law_696 rfl (lv_at hl 0 rfl) ?_
  refine lv_iconst (v := 3) hx hb dL_law_697 (by decide) ?_
  refine lv_iadd hx hb dL_law_698 ?_
  refine lv_topi (fun y_ ey_ => ?_)
  have ey_ : y_ = nI (i + 3) := ey_.trans (pkA3 i)
  rw [ey_]
  refine va_sld hx hb hX hbl hbA hS (i := nI (i + 3)) (vp_in_nI (n := i + 3) (N := L) (by omega) (by omega)) dL_law_699 ?_
  refine lv_topi (fun y_ ey_ => ?_)
  have ey_ : y_ = xs (i + 3) := ey_.trans (congrArg xs (nI_clamp (n := i + 3) (by omega)))
  rw [ey_]
  refine jbI (nL := 4) (As := [.int (xs (i + 1)), .int (xs (i + 2)), .int (xs (i + 3))]) (rest := []) (X := 12) (i := 0) (wf := mW cB cI cJ cZ h0 a rs) hx hb hml hts hown hK hP hD hS hA hz hcc hZ (by decide) rfl (ckE_some e0) (sc_X11_three l dC dI cB cI cJ cZ cS cO b K V fz F cs 0 (xs (i + 1)) (xs (i + 2)) (xs (i + 3)) cs1 r1 e1) (cwV 3 hts (gd_law (in_V kw_1663 kw_1664 kw_1665 kw_181 kc_X11_three)) rfl rfl rfl (by decide +kernel) ⟨Nat.le_of_ble_eq_true rfl, Nat.le_of_ble_eq_true rfl⟩) rfl hl.1 (Nat.le_of_ble_eq_true rfl) ⟨by show kK cs ≤ 600000; omega, by show kM cs ≤ 7302250; omega⟩ dL_law_700 (fun H1 locs1 hP1 hD1 hS1 hz1 => ?_)
  rw [← hmo] at hz1
  rw [← hmo, ← hmo2]
  refine lv_aload_n hx hb dL_law_703 rfl (lv_at hl 1 rfl) ?_
  refine lv_aload_n hx hb dL_law_704 rfl (lv_at hl 3 rfl) ?_
  refine lv_iload_n hx hb dL_law_705 rfl (lv_at hl 0 rfl) ?_
  refine lv_iconst (v := 1) hx hb dL_law_706 (by decide) ?_
  refine lv_iadd hx hb dL_law_707 ?_
  refine lv_topi (fun y_ ey_ => ?_)
  have ey_ : y_ = nI (i + 1) := ey_.trans (pkA1 i)
  rw [ey_]
  refine va_sld hx hb hX hbl hbA hS1 (i := nI (i + 1)) (vp_in_nI (n := i + 1) (N := L) (by omega) (by omega)) dL_law_708 ?_
  refine lv_topi (fun y_ ey_ => ?_)
  have ey_ : y_ = xs (i + 1) := ey_.trans (congrArg xs (nI_clamp (n := i + 1) (by omega)))
  rw [ey_]
  refine lv_aload_n hx hb dL_law_709 rfl (lv_at hl 3 rfl) ?_
  refine lv_iload_n hx hb dL_law_710 rfl (lv_at hl 0 rfl) ?_
  refine lv_iconst (v := 2) hx hb dL_law_711 (by decide) ?_
  refine lv_iadd hx hb dL_law_712 ?_
  refine lv_topi (fun y_ ey_ => ?_)
  have ey_ : y_ = nI (i + 2) := ey_.trans (pkA2 i)
  rw [ey_]
  refine va_sld hx hb hX hbl hbA hS1 (i := nI (i + 2)) (vp_in_nI (n := i + 2) (N := L) (by omega) (by omega)) dL_law_713 ?_
  refine lv_topi (fun y_ ey_ => ?_)
  have ey_ : y_ = xs (i + 2) := ey_.trans (congrArg xs (nI_clamp (n := i + 2) (by omega)))
  rw [ey_]
  refine lv_aload_n hx hb dL_law_714 rfl (lv_at hl 3 rfl) ?_
  refine lv_iload_n hx hb dL_law_715 rfl (lv_at hl 0 rfl) ?_
  refine lv_iconst (v := 3) hx hb dL_law_716 (by decide) ?_
  refine lv_iadd hx hb dL_law_717 ?_
  refine lv_topi (fun y_ ey_ => ?_)
  have ey_ : y_ = nI (i + 3) := ey_.trans (pkA3 i)
  rw [ey_]
  refine va_sld hx hb hX hbl hbA hS1 (i := nI (i + 3)) (vp_in_nI (n := i + 3) (N := L) (by omega) (by omega)) dL_law_718 ?_
  refine lv_topi (fun y_ ey_ => ?_)
  have ey_ : y_ = xs (i + 3) := ey_.trans (congrArg xs (nI_clamp (n := i + 3) (by omega)))
  rw [ey_]
  refine jmI (b := b) (nL := 4) (As := [.int (xs (i + 1)), .int (xs (i + 2)), .int (xs (i + 3))]) (rest := [.int r1]) (wf := cW cB cI cJ cZ cS cO b cs1) hx hb hml hts hown hK (va_P_sw hP1) (va_D_sw hD1) hS1 hA (by rw [hz1, hbe]) hZ (s_three l dC dI cB cI cJ cZ h0 a K V fz F rs (xs (i + 1)) (xs (i + 2)) (xs (i + 3)) r2 e2) (cwV 3 hts (gd_law (in_V kw_2503 kw_2504 kw_2505 kw_191 kc_X12_three)) rfl rfl rfl (by decide +kernel) ⟨Nat.le_of_ble_eq_true rfl, Nat.le_of_ble_eq_true rfl⟩) rfl hl.1 (Nat.le_of_ble_eq_true rfl) ⟨hR1, hR2⟩ dL_law_719 (fun H2 locs2 hP2 hD2 hS2 hz2 => ?_)
  refine lv_icmp_eq (tgt := 750) hx hb dL_law_722 (by decide) (fun c_ => ?_) (fun c_ => ?_)
  · exact kk H2 locs2 (va_P_sw hP2) (va_D_sw hD2) hS2 (hz2.trans hz1)
  · exact absurd hq c_
set_option maxRecDepth 100000 in
theorem ls_19 {p : Program} {l : Launch} {e : Env} {s : State} {m : MethodId} {below : List Frame} {meth : Method} {c : Code} {dC : Nat → ClassId} {dI : Nat → Nat → Nat} {cB cI cJ cZ cS cO : ClassId} {bb L : Nat} {xs : Nat → Int32} {K V : Nat → Nat} {fz : Value} {A : Nat → Prop} {b h0 : Nat} {a : Nat → Nat} (C0 : lw_At p s m meth c bb L xs) (hZ : zE K V fz A s) (hA : ∀ q : Nat, s.heap.size ≤ q → A q) (hbA : ¬ A bb) (hbe : s.heap.size = b) (hK : va_K (dC, dI) vwCl [(cB, .byte), (cI, .int), (cJ, .long), (cZ, .boolean), (cS, .object "StreamQueries$Source"), (cO, .object "java/lang/Object")] s) {F i : Nat} {cs cs9 : CS} {rs rs9 : RS} {H : Heap} {locs : List Loc} {ls : Array Slot} (hi : i + 6 ≤ L) (hL : L ≤ 384) (hP : va_P (dC, dI) vwCl (cW cB cI cJ cZ cS cO b cs ++ mW cB cI cJ cZ h0 a rs) H) (hD : va_D A (cW cB cI cJ cZ cS cO b cs ++ mW cB cI cJ cZ h0 a rs)) (hS : va_S A s.heap H locs) (hz : H.size = b + kK cs) (hf : lk_19 F cs rs (xs (i + 1)) (xs (i + 2)) (xs (i + 3)) (xs (i + 4)) (xs (i + 5)) = some (cs9, rs9)) (hR1 : kK cs9 ≤ 600000) (hR2 : kM cs9 ≤ 7302250) (hl : lv_has ls 4 [(3, .int (nI i)), (2, .ref h0), (1, .ref (b + 0)), (0, .ref bb)]) (kk : ∀ (H1 : Heap) (locs1 : List Loc), va_P (dC, dI) vwCl (cW cB cI cJ cZ cS cO b cs9 ++ mW cB cI cJ cZ h0 a rs9) H1 → va_D A (cW cB cI cJ cZ cS cO b cs9 ++ mW cB cI cJ cZ h0 a rs9) → va_S A s.heap H1 locs1 → H1.size = b + kK cs9 → W p l e room_1 s m #[Value.ref bb] below meth c H1 locs1 (kK cs9) (kM cs9) (lw_Z below #[Value.ref bb] s) (F0 m 750 ls [])) : W p l e room_1 s m #[Value.ref bb] below meth c H locs (kK cs) (kM cs) (lw_Z below #[Value.ref bb] s) (F0 m 727 ls []) := by
  obtain ⟨hx, hb, hr, hml, hown, hts, hX, hbl, hlocks, hgv⟩ := id C0
  unfold lk_19 at hf
  obtain ⟨u0, e0, hf⟩ := ob hf
  obtain ⟨r1, e1, hf⟩ := ob hf
  obtain ⟨r2, e2, hf⟩ := ob hf
  have hf : (if r1 = r2 then some (cs, rs) else none) = some (cs9, rs9) := hf
  by_cases hq : r1 = r2
  case neg => rw [if_neg hq] at hf; cases hf
  rw [if_pos hq] at hf
  have hc9 : cs = cs9 := congrArg Prod.fst (Option.some.inj hf)
  have hr9 : rs = rs9 := congrArg Prod.snd (Option.some.inj hf)
  subst hc9
  subst hr9
  have hcc : s.heap.size + kK cs = b + kK cs := by rw [hbe]
  refine lv_aload_n hx hb dL_law_727 rfl (lv_at hl 2 rfl) ?_
  refine lv_aload_n hx hb dL_law_728 rfl (lv_at hl 3 rfl) ?_
  refine lv_iload_n hx hb dL_law_729 rfl (lv_at hl 0 rfl) ?_
  refine lv_iconst (v := 1) hx hb dL_law_730 (by decide) ?_
  refine lv_iadd hx hb dL_law_731 ?_
  refine lv_topi (fun y_ ey_ => ?_)
  have ey_ : y_ = nI (i + 1) := ey_.trans (pkA1 i)
  rw [ey_]
  refine va_sld hx hb hX hbl hbA hS (i := nI (i + 1)) (vp_in_nI (n := i + 1) (N := L) (by omega) (by omega)) dL_law_732 ?_
  refine lv_topi (fun y_ ey_ => ?_)
  have ey_ : y_ = xs (i + 1) := ey_.trans (congrArg xs (nI_clamp (n := i + 1) (by omega)))
  rw [ey_]
  refine jbI (nL := 4) (As := [.int (xs (i + 1))]) (rest := []) (X := 12) (i := 0) (wf := mW cB cI cJ cZ h0 a rs) hx hb hml hts hown hK hP hD hS hA hz hcc hZ (by decide) rfl (ckE_some e0) (sc_X11_told l dC dI cB cI cJ cZ cS cO b K V fz F cs 0 (xs (i + 1)) r1 e1) (cwV 1 hts (gd_law (in_V kw_1673 kw_1674 kw_1675 kw_181 kc_X11_told)) rfl rfl rfl (by decide +kernel) ⟨Nat.le_of_ble_eq_true rfl, Nat.le_of_ble_eq_true rfl⟩) rfl hl.1 (Nat.le_of_ble_eq_true rfl) ⟨by show kK cs ≤ 600000; omega, by show kM cs ≤ 7302250; omega⟩ dL_law_733 (fun H1 locs1 hP1 hD1 hS1 hz1 => ?_)
  refine lv_aload_n hx hb dL_law_736 rfl (lv_at hl 1 rfl) ?_
  refine lv_aload_n hx hb dL_law_737 rfl (lv_at hl 3 rfl) ?_
  refine lv_iload_n hx hb dL_law_738 rfl (lv_at hl 0 rfl) ?_
  refine lv_iconst (v := 1) hx hb dL_law_739 (by decide) ?_
  refine lv_iadd hx hb dL_law_740 ?_
  refine lv_topi (fun y_ ey_ => ?_)
  have ey_ : y_ = nI (i + 1) := ey_.trans (pkA1 i)
  rw [ey_]
  refine va_sld hx hb hX hbl hbA hS1 (i := nI (i + 1)) (vp_in_nI (n := i + 1) (N := L) (by omega) (by omega)) dL_law_741 ?_
  refine lv_topi (fun y_ ey_ => ?_)
  have ey_ : y_ = xs (i + 1) := ey_.trans (congrArg xs (nI_clamp (n := i + 1) (by omega)))
  rw [ey_]
  refine jmI (b := b) (nL := 4) (As := [.int (xs (i + 1))]) (rest := [.int r1]) (wf := cW cB cI cJ cZ cS cO b cs) hx hb hml hts hown hK (va_P_sw hP1) (va_D_sw hD1) hS1 hA (by rw [hz1, hbe]) hZ (s_told l dC dI cB cI cJ cZ h0 a K V fz F rs (xs (i + 1)) r2 e2) (cwV 1 hts (gd_law (in_V kw_2507 kw_2508 kw_2509 kw_191 kc_X12_told)) rfl rfl rfl (by decide +kernel) ⟨Nat.le_of_ble_eq_true rfl, Nat.le_of_ble_eq_true rfl⟩) rfl hl.1 (Nat.le_of_ble_eq_true rfl) ⟨hR1, hR2⟩ dL_law_742 (fun H2 locs2 hP2 hD2 hS2 hz2 => ?_)
  refine lv_icmp_eq (tgt := 750) hx hb dL_law_745 (by decide) (fun c_ => ?_) (fun c_ => ?_)
  · exact kk H2 locs2 (va_P_sw hP2) (va_D_sw hD2) hS2 (hz2.trans hz1)
  · exact absurd hq c_
