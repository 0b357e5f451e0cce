set_option maxRecDepth 100000 in
theorem law_loop {p : Program} {l : Launch} {e : Env} {s : State} {m : MethodId} {below : List Frame} {meth : Method} {c : Code} {dC : Nat → ClassId} {dI : Nat → Nat → Nat} {cB cI cJ cZ cS cO : ClassId} {bb L : Nat} {xs : Nat → Int32} {K V : Nat → Nat} {fz : Value} {A : Nat → Prop} {b h0 : Nat} {a : Nat → Nat} (C0 : lw_At p s m meth c bb L xs) (hZ : zE K V fz A s) (hA : ∀ q : Nat, s.heap.size ≤ q → A q) (hbA : ¬ A bb) (hbe : s.heap.size = b) (hK : va_K (dC, dI) vwCl [(cB, .byte), (cI, .int), (cJ, .long), (cZ, .boolean), (cS, .object "StreamQueries$Source"), (cO, .object "java/lang/Object")] s) {F : Nat} (hAf : ∀ q : Nat, A q → s.heap.size ≤ q) (hL : L ≤ 384) : ∀ (n i : Nat) (cs cs9 : CS) (rs rs9 : RS) (H : Heap) (locs : List Loc) (ls : Array Slot), i + 6 * n ≤ L → L < i + 6 * n + 6 → va_P (dC, dI) vwCl (cW cB cI cJ cZ cS cO b cs ++ mW cB cI cJ cZ h0 a rs) H → va_D A (cW cB cI cJ cZ cS cO b cs ++ mW cB cI cJ cZ h0 a rs) → va_S A s.heap H locs → H.size = b + kK cs → LW F xs n i cs rs = some (cs9, rs9) → kK cs9 ≤ 600000 → kM cs9 ≤ 7302250 → lv_has ls 4 [(3, .int (nI i)), (2, .ref h0), (1, .ref (b + 0)), (0, .ref bb)] → W p l e room_1 s m #[Value.ref bb] below meth c H locs (kK cs) (kM cs) (lw_Z below #[Value.ref bb] s) (F0 m 18 ls []) := by
  intro n
  induction n with
  | zero =>
    intro i cs cs9 rs rs9 H locs ls hi hi2 hP hD hS hz hf hR1 hR2 hl
    rw [LW_0] at hf
    cases hf
    obtain ⟨hx, hb, hr, hml, hown, hts, hX, hbl, hlocks, hgv⟩ := id C0
    refine lv_iload_n hx hb dL_law_18 rfl (lv_at hl 0 rfl) ?_
    refine lv_aload_n hx hb dL_law_19 rfl (lv_at hl 3 rfl) ?_
    refine va_slen hx hb hX hbl hbA hS dL_law_20 ?_
    refine lv_bipush (v := 6) hx hb dL_law_21 (by decide) ?_
    refine lv_isub hx hb dL_law_23 ?_
    refine lv_icmp_gt (tgt := 756) hx hb dL_law_24 (by decide) (fun c_ => ?_) (fun c_ => absurd ((lw_cmp hL (by omega)).mpr (by omega)) c_)
    refine lv_iconst (v := 1) hx hb dL_law_756 (by decide) ?_
    refine va_forget (fun q hq => hAf _ (hS.2.2 q hq)) ?_
    refine W.widen (k := 600000) (n := 7302250) hR1 hR2 ?_
    exact lw_ret hx hb hr hlocks dL_law_757
  | succ n ih =>
    intro i cs cs9 rs rs9 H locs ls hi hi2 hP hD hS hz hf hR1 hR2 hl
    rw [LW_s] at hf
    obtain ⟨⟨cs1, rs1⟩, e1, hf⟩ := ob hf
    have hf : LW F xs n (i + 6) cs1 rs1 = some (cs9, rs9) := hf
    have hm := mo_LW n (i + 6) hf
    obtain ⟨hx, hb, hr, hml, hown, hts, hX, hbl, hlocks, hgv⟩ := id C0
    refine lv_iload_n hx hb dL_law_18 rfl (lv_at hl 0 rfl) ?_
    refine lv_aload_n hx hb dL_law_19 rfl (lv_at hl 3 rfl) ?_
    refine va_slen hx hb hX hbl hbA hS dL_law_20 ?_
    refine lv_bipush (v := 6) hx hb dL_law_21 (by decide) ?_
    refine lv_isub hx hb dL_law_23 ?_
    refine lv_icmp_gt (tgt := 756) hx hb dL_law_24 (by decide) (fun c_ => absurd ((lw_cmp hL (by omega)).mp c_) (by omega)) (fun c_ => ?_)
    refine lv_aload_n hx hb dL_law_27 rfl (lv_at hl 3 rfl) ?_
    refine lv_iload_n hx hb dL_law_28 rfl (lv_at hl 0 rfl) ?_
    refine va_sld hx hb hX hbl hbA hS (i := nI i) (vp_in_nI (n := i) (N := L) (by omega) (by omega)) dL_law_29 ?_
    refine lv_topi (fun y_ ey_ => ?_)
    have ey_ : y_ = xs i := ey_.trans (congrArg xs (nI_clamp (n := i) (by omega)))
    subst ey_
    refine lv_bipush (v := 31) hx hb dL_law_30 (by decide) ?_
    refine lv_iand hx hb dL_law_32 ?_
    obtain ⟨j, hj, ej⟩ := pk_andE (xs i) (m := 31) 5 (by decide)
    rw [ej]
    rw [ej, nI_clamp (n := j) (by omega)] at e1
    refine law_disp C0 hZ hA hbA hbe hK hj (by omega) hL hP hD hS hz e1 (by omega) (by omega) hl (fun H1 locs1 hP1 hD1 hS1 hz1 => ?_)
    refine lv_iinc (v := nI (i + 6)) (lv' := [(3, .int (nI (i + 6))), (2, .ref h0), (1, .ref (b + 0)), (0, .ref bb)]) hx hb dL_law_750 hl (k := 0) rfl (nI_inc i) (by decide) rfl (fun ls hl => ?_)
    refine lv_goto (tgt := 18) hx hb dL_law_753 (by decide) ?_
    exact ih (i + 6) cs1 cs9 rs1 rs9 H1 locs1 ls (by omega) (by omega) hP1 hD1 hS1 hz1 hf hR1 hR2 hl
