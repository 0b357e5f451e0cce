set_option maxRecDepth 100000 in
theorem ls_0 {p : Program} {l : Launch} {e : Env} {s : State} {m : MethodId} {below : List Frame} {meth : Method} {c : Code} {dC : Nat → ClassId} {dI : Nat → Nat → Nat} {cB cI cJ cZ cS cO : ClassId} {bb L : Nat} {xs : Nat → Int32} {K V : Nat → Nat} {fz : Value} {A : Nat → Prop} {b h0 : Nat} {a : Nat → Nat} (C0 : lw_At p s m meth c bb L xs) (hZ : zE K V fz A s) (hA : ∀ q : Nat, s.heap.size ≤ q → A q) (hbA : ¬ A bb) (hbe : s.heap.size = b) (hK : va_K (dC, dI) vwCl [(cB, .byte), (cI, .int), (cJ, .long), (cZ, .boolean), (cS, .object "StreamQueries$Source"), (cO, .object "java/lang/Object")] s) {F i : Nat} {cs cs9 : CS} {rs rs9 : RS} {H : Heap} {locs : List Loc} {ls : Array Slot} (hi : i + 6 ≤ L) (hL : L ≤ 384) (hP : va_P (dC, dI) vwCl (cW cB cI cJ cZ cS cO b cs ++ mW cB cI cJ cZ h0 a rs) H) (hD : va_D A (cW cB cI cJ cZ cS cO b cs ++ mW cB cI cJ cZ h0 a rs)) (hS : va_S A s.heap H locs) (hz : H.size = b + kK cs) (hf : lk_0 F cs rs (xs (i + 1)) (xs (i + 2)) (xs (i + 3)) (xs (i + 4)) (xs (i + 5)) = some (cs9, rs9)) (hR1 : kK cs9 ≤ 600000) (hR2 : kM cs9 ≤ 7302250) (hl : lv_has ls 4 [(3, .int (nI i)), (2, .ref h0), (1, .ref (b + 0)), (0, .ref bb)]) (kk : ∀ (H1 : Heap) (locs1 : List Loc), va_P (dC, dI) vwCl (cW cB cI cJ cZ cS cO b cs9 ++ mW cB cI cJ cZ h0 a rs9) H1 → va_D A (cW cB cI cJ cZ cS cO b cs9 ++ mW cB cI cJ cZ h0 a rs9) → va_S A s.heap H1 locs1 → H1.size = b + kK cs9 → W p l e room_1 s m #[Value.ref bb] below meth c H1 locs1 (kK cs9) (kM cs9) (lw_Z below #[Value.ref bb] s) (F0 m 750 ls [])) : W p l e room_1 s m #[Value.ref bb] below meth c H locs (kK cs) (kM cs) (lw_Z below #[Value.ref bb] s) (F0 m 128 ls []) := by
  obtain ⟨hx, hb, hr, hml, hown, hts, hX, hbl, hlocks, hgv⟩ := id C0
  unfold lk_0 at hf
  obtain ⟨u0, e0, hf⟩ := ob hf
  obtain ⟨⟨cs1, r1⟩, e1, hf⟩ := ob hf
  obtain ⟨⟨rs1, r2⟩, e2, hf⟩ := ob hf
  have hf : (if r1 = r2 then some (cs1, rs1) else none) = some (cs9, rs9) := hf
  by_cases hq : r1 = r2
  case neg => rw [if_neg hq] at hf; cases hf
  rw [if_pos hq] at hf
  have hc9 : cs1 = cs9 := congrArg Prod.fst (Option.some.inj hf)
  have hr9 : rs1 = rs9 := congrArg Prod.snd (Option.some.inj hf)
  subst hc9
  subst hr9
  have hmo0 := mo_c_X11_feed F cs 0 (xs (i + 1)) (xs (i + 2)) (xs (i + 3)) (xs (i + 4)) (xs (i + 5)) cs1 r1 e1
  have hmo : kK cs1 = kK cs := congrArg Prod.fst hmo0
  have hmo2 : kM cs1 = kM cs := congrArg (fun z => z.2.1) hmo0
  have hcc : s.heap.size + kK cs = b + kK cs := by rw [hbe]
  refine lv_aload_n hx hb dL_law_128 rfl (lv_at hl 2 rfl) ?_
  refine lv_aload_n hx hb dL_law_129 rfl (lv_at hl 3 rfl) ?_
  refine lv_iload_n hx hb dL_law_130 rfl (lv_at hl 0 rfl) ?_
  refine lv_iconst (v := 1) hx hb dL_law_131 (by decide) ?_
  refine lv_iadd hx hb dL_law_132 ?_
  refine lv_topi (fun y_ ey_ => ?_)
  have ey_ : y_ = nI (i + 1) := ey_.trans (pkA1 i)
  rw [ey_]
  refine va_sld hx hb hX hbl hbA hS (i := nI (i + 1)) (vp_in_nI (n := i + 1) (N := L) (by omega) (by omega)) dL_law_133 ?_
  refine lv_topi (fun y_ ey_ => ?_)
  have ey_ : y_ = xs (i + 1) := ey_.trans (congrArg xs (nI_clamp (n := i + 1) (by omega)))
  rw [ey_]
  refine lv_aload_n hx hb dL_law_134 rfl (lv_at hl 3 rfl) ?_
  refine lv_iload_n hx hb dL_law_135 rfl (lv_at hl 0 rfl) ?_
  refine lv_iconst (v := 2) hx hb dL_law_136 (by decide) ?_
  refine lv_iadd hx hb dL_law_137 ?_
  refine lv_topi (fun y_ ey_ => ?_)
  have ey_ : y_ = nI (i + 2) := ey_.trans (pkA2 i)
  rw [ey_]
  refine va_sld hx hb hX hbl hbA hS (i := nI (i + 2)) (vp_in_nI (n := i + 2) (N := L) (by omega) (by omega)) dL_law_138 ?_
  refine lv_topi (fun y_ ey_ => ?_)
  have ey_ : y_ = xs (i + 2) := ey_.trans (congrArg xs (nI_clamp (n := i + 2) (by omega)))
  rw [ey_]
  refine lv_aload_n hx hb dL_law_139 rfl (lv_at hl 3 rfl) ?_
  refine lv_iload_n hx hb dL_law_140 rfl (lv_at hl 0 rfl) ?_
  refine lv_iconst (v := 3) hx hb dL_law_141 (by decide) ?_
  refine lv_iadd hx hb dL_law_142 ?_
  refine lv_topi (fun y_ ey_ => ?_)
  have ey_ : y_ = nI (i + 3) := ey_.trans (pkA3 i)
  rw [ey_]
  refine va_sld hx hb hX hbl hbA hS (i := nI (i + 3)) (vp_in_nI (n := i + 3) (N := L) (by omega) (by omega)) dL_law_143 ?_
  refine lv_topi (fun y_ ey_ => ?_)
  have ey_ : y_ = xs (i + 3) := ey_.trans (congrArg xs (nI_clamp (n := i + 3) (by omega)))
  rw [ey_]
  refine lv_aload_n hx hb dL_law_144 rfl (lv_at hl 3 rfl) ?_
  refine lv_iload_n hx hb dL_law_145 rfl (lv_at hl 0 rfl) ?_
  refine lv_iconst (v := 4) hx hb dL_law_146 (by decide) ?_
  refine lv_iadd hx hb dL_law_147 ?_
  refine lv_topi (fun y_ ey_ => ?_)
  have ey_ : y_ = nI (i + 4) := ey_.trans (pkA4 i)
  rw [ey_]
  refine va_sld hx hb hX hbl hbA hS (i := nI (i + 4)) (vp_in_nI (n := i + 4) (N := L) (by omega) (by omega)) dL_law_148 ?_
  refine lv_topi (fun y_ ey_ => ?_)
  have ey_ : y_ = xs (i + 4) := ey_.trans (congrArg xs (nI_clamp (n := i + 4) (by omega)))
  rw [ey_]
  refine lv_aload_n hx hb dL_law_149 rfl (lv_at hl 3 rfl) ?_
  refine lv_iload_n hx hb dL_law_150 rfl (lv_at hl 0 rfl) ?_
  refine lv_iconst (v := 5) hx hb dL_law_151 (by decide) ?_
  refine lv_iadd hx hb dL_law_152 ?_
  refine lv_topi (fun y_ ey_ => ?_)
  have ey_ : y_ = nI (i + 5) := ey_.trans (pkA5 i)
  rw [ey_]
  refine va_sld hx hb hX hbl hbA hS (i := nI (i + 5)) (vp_in_nI (n := i + 5) (N := L) (by omega) (by omega)) dL_law_153 ?_
  refine lv_topi (fun y_ ey_ => ?_)
  have ey_ : y_ = xs (i + 5) := ey_.trans (congrArg xs (nI_clamp (n := i + 5) (by omega)))
  rw [ey_]
  refine jbI (nL := 4) (As := [.int (xs (i + 1)), .int (xs (i + 2)), .int (xs (i + 3)), .int (xs (i + 4)), .int (xs (i + 5))]) (rest := []) (X := 12) (i := 0) (wf := mW cB cI cJ cZ h0 a rs) hx hb hml hts hown hK hP hD hS hA hz hcc hZ (by decide) rfl (ckE_some e0) (sc_X11_feed l dC dI cB cI cJ cZ cS cO b K V fz F cs 0 (xs (i + 1)) (xs (i + 2)) (xs (i + 3)) (xs (i + 4)) (xs (i + 5)) cs1 r1 e1) (cwV 5 hts (gd_law (in_V kw_477 kw_478 kw_479 kw_181 kc_X11_feed)) rfl rfl rfl (by decide +kernel) ⟨Nat.le_of_ble_eq_true rfl, Nat.le_of_ble_eq_true rfl⟩) rfl hl.1 (Nat.le_of_ble_eq_true rfl) ⟨by show kK cs ≤ 600000; omega, by show kM cs ≤ 7302250; omega⟩ dL_law_154 (fun H1 locs1 hP1 hD1 hS1 hz1 => ?_)
  rw [← hmo] at hz1
  rw [← hmo, ← hmo2]
  refine lv_aload_n hx hb dL_law_157 rfl (lv_at hl 1 rfl) ?_
  refine lv_aload_n hx hb dL_law_158 rfl (lv_at hl 3 rfl) ?_
  refine lv_iload_n hx hb dL_law_159 rfl (lv_at hl 0 rfl) ?_
  refine lv_iconst (v := 1) hx hb dL_law_160 (by decide) ?_
  refine lv_iadd hx hb dL_law_161 ?_
  refine lv_topi (fun y_ ey_ => ?_)
  have ey_ : y_ = nI (i + 1) := ey_.trans (pkA1 i)
  rw [ey_]
  refine va_sld hx hb hX hbl hbA hS1 (i := nI (i + 1)) (vp_in_nI (n := i + 1) (N := L) (by omega) (by omega)) dL_law_162 ?_
  refine lv_topi (fun y_ ey_ => ?_)
  have ey_ : y_ = xs (i + 1) := ey_.trans (congrArg xs (nI_clamp (n := i + 1) (by omega)))
  rw [ey_]
  refine lv_aload_n hx hb dL_law_163 rfl (lv_at hl 3 rfl) ?_
  refine lv_iload_n hx hb dL_law_164 rfl (lv_at hl 0 rfl) ?_
  refine lv_iconst (v := 2) hx hb dL_law_165 (by decide) ?_
  refine lv_iadd hx hb dL_law_166 ?_
  refine lv_topi (fun y_ ey_ => ?_)
  have ey_ : y_ = nI (i + 2) := ey_.trans (pkA2 i)
  rw [ey_]
  refine va_sld hx hb hX hbl hbA hS1 (i := nI (i + 2)) (vp_in_nI (n := i + 2) (N := L) (by omega) (by omega)) dL_law_167 ?_
  refine lv_topi (fun y_ ey_ => ?_)
  have ey_ : y_ = xs (i + 2) := ey_.trans (congrArg xs (nI_clamp (n := i + 2) (by omega)))
  rw [ey_]
  refine lv_aload_n hx hb dL_law_168 rfl (lv_at hl 3 rfl) ?_
  refine lv_iload_n hx hb dL_law_169 rfl (lv_at hl 0 rfl) ?_
  refine lv_iconst (v := 3) hx hb dL_law_170 (by decide) ?_
  refine lv_iadd hx hb dL_law_171 ?_
  refine lv_topi (fun y_ ey_ => ?_)
  have ey_ : y_ = nI (i + 3) := ey_.trans (pkA3 i)
  rw [ey_]
  refine va_sld hx hb hX hbl hbA hS1 (i := nI (i + 3)) (vp_in_nI (n := i + 3) (N := L) (by omega) (by omega)) dL_law_172 ?_
  refine lv_topi (fun y_ ey_ => ?_)
  have ey_ : y_ = xs (i + 3) := ey_.trans (congrArg xs (nI_clamp (n := i + 3) (by omega)))
  rw [ey_]
  refine lv_aload_n hx hb dL_law_173 rfl (lv_at hl 3 rfl) ?_
  refine lv_iload_n hx hb dL_law_174 rfl (lv_at hl 0 rfl) ?_
  refine lv_iconst (v := 4) hx hb dL_law_175 (by decide) ?_
  refine lv_iadd hx hb dL_law_176 ?_
  refine lv_topi (fun y_ ey_ => ?_)
  have ey_ : y_ = nI (i + 4) := ey_.trans (pkA4 i)
  rw [ey_]
  refine va_sld hx hb hX hbl hbA hS1 (i := nI (i + 4)) (vp_in_nI (n := i + 4) (N := L) (by omega) (by omega)) dL_law_177 ?_
  refine lv_topi (fun y_ ey_ => ?_)
  have ey_ : y_ = xs (i + 4) := ey_.trans (congrArg xs (nI_clamp (n := i + 4) (by omega)))
  rw [ey_]
  refine lv_aload_n hx hb dL_law_178 rfl (lv_at hl 3 rfl) ?_
  refine lv_iload_n hx hb dL_law_179 rfl (lv_at hl 0 rfl) ?_
  refine lv_iconst (v := 5) hx hb dL_law_180 (by decide) ?_
  refine lv_iadd hx hb dL_law_181 ?_
  refine lv_topi (fun y_ ey_ => ?_)
  have ey_ : y_ = nI (i + 5) := ey_.trans (pkA5 i)
  rw [ey_]
  refine va_sld hx hb hX hbl hbA hS1 (i := nI (i + 5)) (vp_in_nI (n := i + 5) (N := L) (by omega) (by omega)) dL_law_182 ?_
  refine lv_topi (fun y_ ey_ => ?_)
  have ey_ : y_ = xs (i + 5) := ey_.trans (congrArg xs (nI_clamp (n := i + 5) (by omega)))
  rw [ey_]
  refine jmI (b := b) (nL := 4) (As := [.int (xs (i + 1)), .int (xs (i + 2)), .int (xs (i + 3)), .int (xs (i + 4)), .int (xs (i + 5))]) (rest := [.int r1]) (wf := cW cB cI cJ cZ cS cO b cs1) hx hb hml hts hown hK (va_P_sw hP1) (va_D_sw hD1) hS1 hA (by rw [hz1, hbe]) hZ (s_feed l dC dI cB cI cJ cZ h0 a K V fz F rs (xs (i + 1)) (xs (i + 2)) (xs (i + 3)) (xs (i + 4)) (xs (i + 5)) rs1 r2 e2) (cwV 5 hts (gd_law (in_V kw_2041 kw_2042 kw_2043 kw_191 kc_X12_feed)) rfl rfl rfl (by decide +kernel) ⟨Nat.le_of_ble_eq_true rfl, Nat.le_of_ble_eq_true rfl⟩) rfl hl.1 (Nat.le_of_ble_eq_true rfl) ⟨hR1, hR2⟩ dL_law_183 (fun H2 locs2 hP2 hD2 hS2 hz2 => ?_)
  refine lv_icmp_eq (tgt := 750) hx hb dL_law_186 (by decide) (fun c_ => ?_) (fun c_ => ?_)
  · exact kk H2 locs2 (va_P_sw hP2) (va_D_sw hD2) hS2 (hz2.trans hz1)
  · exact absurd hq c_
set_option maxRecDepth 100000 in
theorem ls_1 {p : Program} {l : Launch} {e : Env} {s : State} {m : MethodId} {below : List Frame} {meth : Method} {c : Code} {dC : Nat → ClassId} {dI : Nat → Nat → Nat} {cB cI cJ cZ cS cO : ClassId} {bb L : Nat} {xs : Nat → Int32} {K V : Nat → Nat} {fz : Value} {A : Nat → Prop} {b h0 : Nat} {a : Nat → Nat} (C0 : lw_At p s m meth c bb L xs) (hZ : zE K V fz A s) (hA : ∀ q : Nat, s.heap.size ≤ q → A q) (hbA : ¬ A bb) (hbe : s.heap.size = b) (hK : va_K (dC, dI) vwCl [(cB, .byte), (cI, .int), (cJ, .long), (cZ, .boolean), (cS, .object "StreamQueries$Source"), (cO, .object "java/lang/Object")] s) {F i : Nat} {cs cs9 : CS} {rs rs9 : RS} {H : Heap} {locs : List Loc} {ls : Array Slot} (hi : i + 6 ≤ L) (hL : L ≤ 384) (hP : va_P (dC, dI) vwCl (cW cB cI cJ cZ cS cO b cs ++ mW cB cI cJ cZ h0 a rs) H) (hD : va_D A (cW cB cI cJ cZ cS cO b cs ++ mW cB cI cJ cZ h0 a rs)) (hS : va_S A s.heap H locs) (hz : H.size = b + kK cs) (hf : lk_1 F cs rs (xs (i + 1)) (xs (i + 2)) (xs (i + 3)) (xs (i + 4)) (xs (i + 5)) = some (cs9, rs9)) (hR1 : kK cs9 ≤ 600000) (hR2 : kM cs9 ≤ 7302250) (hl : lv_has ls 4 [(3, .int (nI i)), (2, .ref h0), (1, .ref (b + 0)), (0, .ref bb)]) (kk : ∀ (H1 : Heap) (locs1 : List Loc), va_P (dC, dI) vwCl (cW cB cI cJ cZ cS cO b cs9 ++ mW cB cI cJ cZ h0 a rs9) H1 → va_D A (cW cB cI cJ cZ cS cO b cs9 ++ mW cB cI cJ cZ h0 a rs9) → va_S A s.heap H1 locs1 → H1.size = b + kK cs9 → W p l e room_1 s m #[Value.ref bb] below meth c H1 locs1 (kK cs9) (kM cs9) (lw_Z below #[Value.ref bb] s) (F0 m 750 ls [])) : W p l e room_1 s m #[Value.ref bb] below meth c H locs (kK cs) (kM cs) (lw_Z below #[Value.ref bb] s) (F0 m 191 ls []) := by
  obtain ⟨hx, hb, hr, hml, hown, hts, hX, hbl, hlocks, hgv⟩ := id C0
  unfold lk_1 at hf
  obtain ⟨u0, e0, hf⟩ := ob hf
  obtain ⟨⟨cs1, r1⟩, e1, hf⟩ := ob hf
  obtain ⟨⟨rs1, r2⟩, e2, hf⟩ := ob hf
  have hf : (if r1 = r2 then some (cs1, rs1) else none) = some (cs9, rs9) := hf
  by_cases hq : r1 = r2
  case neg => rw [if_neg hq] at hf; cases hf
  rw [if_pos hq] at hf
  have hc9 : cs1 = cs9 := congrArg Prod.fst (Option.some.inj hf)
  have hr9 : rs1 = rs9 := congrArg Prod.snd (Option.some.inj hf)
  subst hc9
  subst hr9
  have hmo0 := mo_c_X11_cut F cs 0 (xs (i + 1)) cs1 r1 e1
  have hmo : kK cs1 = kK cs := congrArg Prod.fst hmo0
  have hmo2 : kM cs1 = kM cs := congrArg (fun z => z.2.1) hmo0
  have hcc : s.heap.size + kK cs = b + kK cs := by rw [hbe]
  refine lv_aload_n hx hb dL_law_191 rfl (lv_at hl 2 rfl) ?_
  refine lv_aload_n hx hb dL_law_192 rfl (lv_at hl 3 rfl) ?_
  refine lv_iload_n hx hb dL_law_193 rfl (lv_at hl 0 rfl) ?_
  refine lv_iconst (v := 1) hx hb dL_law_194 (by decide) ?_
  refine lv_iadd hx hb dL_law_195 ?_
  refine lv_topi (fun y_ ey_ => ?_)
  have ey_ : y_ = nI (i + 1) := ey_.trans (pkA1 i)
  rw [ey_]
  refine va_sld hx hb hX hbl hbA hS (i := nI (i + 1)) (vp_in_nI (n := i + 1) (N := L) (by omega) (by omega)) dL_law_196 ?_
  refine lv_topi (fun y_ ey_ => ?_)
  have ey_ : y_ = xs (i + 1) := ey_.trans (congrArg xs (nI_clamp (n := i + 1) (by omega)))
  rw [ey_]
  refine jbI (nL := 4) (As := [.int (xs (i + 1))]) (rest := []) (X := 12) (i := 0) (wf := mW cB cI cJ cZ h0 a rs) hx hb hml hts hown hK hP hD hS hA hz hcc hZ (by decide) rfl (ckE_some e0) (sc_X11_cut l dC dI cB cI cJ cZ cS cO b K V fz F cs 0 (xs (i + 1)) cs1 r1 e1) (cwV 1 hts (gd_law (in_V kw_485 kw_486 kw_487 kw_181 kc_X11_cut)) rfl rfl rfl (by decide +kernel) ⟨Nat.le_of_ble_eq_true rfl, Nat.le_of_ble_eq_true rfl⟩) rfl hl.1 (Nat.le_of_ble_eq_true rfl) ⟨by show kK cs ≤ 600000; omega, by show kM cs ≤ 7302250; omega⟩ dL_law_197 (fun H1 locs1 hP1 hD1 hS1 hz1 => ?_)
  rw [← hmo] at hz1
  rw [← hmo, ← hmo2]
  refine lv_aload_n hx hb dL_law_200 rfl (lv_at hl 1 rfl) ?_
  refine lv_aload_n hx hb dL_law_201 rfl (lv_at hl 3 rfl) ?_
  refine lv_iload_n hx hb dL_law_202 rfl (lv_at hl 0 rfl) ?_
  refine lv_iconst (v := 1) hx hb dL_law_203 (by decide) ?_
  refine lv_iadd hx hb dL_law_204 ?_
  refine lv_topi (fun y_ ey_ => ?_)
  have ey_ : y_ = nI (i + 1) := ey_.trans (pkA1 i)
  rw [ey_]
  refine va_sld hx hb hX hbl hbA hS1 (i := nI (i + 1)) (vp_in_nI (n := i + 1) (N := L) (by omega) (by omega)) dL_law_205 ?_
  refine lv_topi (fun y_ ey_ => ?_)
  have ey_ : y_ = xs (i + 1) := ey_.trans (congrArg xs (nI_clamp (n := i + 1) (by omega)))
  rw [ey_]
  refine jmI (b := b) (nL := 4) (As := [.int (xs (i + 1))]) (rest := [.int r1]) (wf := cW cB cI cJ cZ cS cO b cs1) hx hb hml hts hown hK (va_P_sw hP1) (va_D_sw hD1) hS1 hA (by rw [hz1, hbe]) hZ (s_cut l dC dI cB cI cJ cZ h0 a K V fz F rs (xs (i + 1)) rs1 r2 e2) (cwV 1 hts (gd_law (in_V kw_2049 kw_2050 kw_2051 kw_191 kc_X12_cut)) rfl rfl rfl (by decide +kernel) ⟨Nat.le_of_ble_eq_true rfl, Nat.le_of_ble_eq_true rfl⟩) rfl hl.1 (Nat.le_of_ble_eq_true rfl) ⟨hR1, hR2⟩ dL_law_206 (fun H2 locs2 hP2 hD2 hS2 hz2 => ?_)
  refine lv_icmp_eq (tgt := 750) hx hb dL_law_209 (by decide) (fun c_ => ?_) (fun c_ => ?_)
  · exact kk H2 locs2 (va_P_sw hP2) (va_D_sw hD2) hS2 (hz2.trans hz1)
  · exact absurd hq c_
set_option maxRecDepth 100000 in
theorem ls_2 {p : Program} {l : Launch} {e : Env} {s : State} {m : MethodId} {below : List Frame} {meth : Method} {c : Code} {dC : Nat → ClassId} {dI : Nat → Nat → Nat} {cB cI cJ cZ cS cO : ClassId} {bb L : Nat} {xs : Nat → Int32} {K V : Nat → Nat} {fz : Value} {A : Nat → Prop} {b h0 : Nat} {a : Nat → Nat} (C0 : lw_At p s m meth c bb L xs) (hZ : zE K V fz A s) (hA : ∀ q : Nat, s.heap.size ≤ q → A q) (hbA : ¬ A bb) (hbe : s.heap.size = b) (hK : va_K (dC, dI) vwCl [(cB, .byte), (cI, .int), (cJ, .long), (cZ, .boolean), (cS, .object "StreamQueries$Source"), (cO, .object "java/lang/Object")] s) {F i : Nat} {cs cs9 : CS} {rs rs9 : RS} {H : Heap} {locs : List Loc} {ls : Array Slot} (hi : i + 6 ≤ L) (hL : L ≤ 384) (hP : va_P (dC, dI) vwCl (cW cB cI cJ cZ cS cO b cs ++ mW cB cI cJ cZ h0 a rs) H) (hD : va_D A (cW cB cI cJ cZ cS cO b cs ++ mW cB cI cJ cZ h0 a rs)) (hS : va_S A s.heap H locs) (hz : H.size = b + kK cs) (hf : lk_2 F cs rs (xs (i + 1)) (xs (i + 2)) (xs (i + 3)) (xs (i + 4)) (xs (i + 5)) = some (cs9, rs9)) (hR1 : kK cs9 ≤ 600000) (hR2 : kM cs9 ≤ 7302250) (hl : lv_has ls 4 [(3, .int (nI i)), (2, .ref h0), (1, .ref (b + 0)), (0, .ref bb)]) (kk : ∀ (H1 : Heap) (locs1 : List Loc), va_P (dC, dI) vwCl (cW cB cI cJ cZ cS cO b cs9 ++ mW cB cI cJ cZ h0 a rs9) H1 → va_D A (cW cB cI cJ cZ cS cO b cs9 ++ mW cB cI cJ cZ h0 a rs9) → va_S A s.heap H1 locs1 → H1.size = b + kK cs9 → W p l e room_1 s m #[Value.ref bb] below meth c H1 locs1 (kK cs9) (kM cs9) (lw_Z below #[Value.ref bb] s) (F0 m 750 ls [])) : W p l e room_1 s m #[Value.ref bb] below meth c H locs (kK cs) (kM cs) (lw_Z below #[Value.ref bb] s) (F0 m 214 ls []) := by
  obtain ⟨hx, hb, hr, hml, hown, hts, hX, hbl, hlocks, hgv⟩ := id C0
  unfold lk_2 at hf
  obtain ⟨u0, e0, hf⟩ := ob hf
  obtain ⟨⟨cs1, r1⟩, e1, hf⟩ := ob hf
  obtain ⟨⟨rs1, r2⟩, e2, hf⟩ := ob hf
  have hf : (if r1 = r2 then some (cs1, rs1) else none) = some (cs9, rs9) := hf
  by_cases hq : r1 = r2
  case neg => rw [if_neg hq] at hf; cases hf
  rw [if_pos hq] at hf
  have hc9 : cs1 = cs9 := congrArg Prod.fst (Option.some.inj hf)
  have hr9 : rs1 = rs9 := congrArg Prod.snd (Option.some.inj hf)
  subst hc9
  subst hr9
  have hmo0 := mo_c_X11_stream F cs 0 (xs (i + 1)) cs1 r1 e1
  have hmo : kK cs1 = kK cs := congrArg Prod.fst hmo0
  have hmo2 : kM cs1 = kM cs := congrArg (fun z => z.2.1) hmo0
  have hcc : s.heap.size + kK cs = b + kK cs := by rw [hbe]
  refine lv_aload_n hx hb dL_law_214 rfl (lv_at hl 2 rfl) ?_
  refine lv_aload_n hx hb dL_law_215 rfl (lv_at hl 3 rfl) ?_
  refine lv_iload_n hx hb dL_law_216 rfl (lv_at hl 0 rfl) ?_
  refine lv_iconst (v := 1) hx hb dL_law_217 (by decide) ?_
  refine lv_iadd hx hb dL_law_218 ?_
  refine lv_topi (fun y_ ey_ => ?_)
  have ey_ : y_ = nI (i + 1) := ey_.trans (pkA1 i)
  rw [ey_]
  refine va_sld hx hb hX hbl hbA hS (i := nI (i + 1)) (vp_in_nI (n := i + 1) (N := L) (by omega) (by omega)) dL_law_219 ?_
  refine lv_topi (fun y_ ey_ => ?_)
  have ey_ : y_ = xs (i + 1) := ey_.trans (congrArg xs (nI_clamp (n := i + 1) (by omega)))
  rw [ey_]
  refine jbI (nL := 4) (As := [.int (xs (i + 1))]) (rest := []) (X := 12) (i := 0) (wf := mW cB cI cJ cZ h0 a rs) hx hb hml hts hown hK hP hD hS hA hz hcc hZ (by decide) rfl (ckE_some e0) (sc_X11_stream l dC dI cB cI cJ cZ cS cO b K V fz F cs 0 (xs (i + 1)) cs1 r1 e1) (cwV 1 hts (gd_law (in_V kw_489 kw_490 kw_491 kw_181 kc_X11_stream)) rfl rfl rfl (by decide +kernel) ⟨Nat.le_of_ble_eq_true rfl, Nat.le_of_ble_eq_true rfl⟩) rfl hl.1 (Nat.le_of_ble_eq_true rfl) ⟨by show kK cs ≤ 600000; omega, by show kM cs ≤ 7302250; omega⟩ dL_law_220 (fun H1 locs1 hP1 hD1 hS1 hz1 => ?_)
  rw [← hmo] at hz1
  rw [← hmo, ← hmo2]
  refine lv_aload_n hx hb dL_law_223 rfl (lv_at hl 1 rfl) ?_
  refine lv_aload_n hx hb dL_law_224 rfl (lv_at hl 3 rfl) ?_
  refine lv_iload_n hx hb dL_law_225 rfl (lv_at hl 0 rfl) ?_
  refine lv_iconst (v := 1) hx hb dL_law_226 (by decide) ?_
  refine lv_iadd hx hb dL_law_227 ?_
  refine lv_topi (fun y_ ey_ => ?_)
  have ey_ : y_ = nI (i + 1) := ey_.trans (pkA1 i)
  rw [ey_]
  refine va_sld hx hb hX hbl hbA hS1 (i := nI (i + 1)) (vp_in_nI (n := i + 1) (N := L) (by omega) (by omega)) dL_law_228 ?_
  refine lv_topi (fun y_ ey_ => ?_)
  have ey_ : y_ = xs (i + 1) := ey_.trans (congrArg xs (nI_clamp (n := i + 1) (by omega)))
  rw [ey_]
  refine jmI (b := b) (nL := 4) (As := [.int (xs (i + 1))]) (rest := [.int r1]) (wf := cW cB cI cJ cZ cS cO b cs1) hx hb hml hts hown hK (va_P_sw hP1) (va_D_sw hD1) hS1 hA (by rw [hz1, hbe]) hZ (s_stream l dC dI cB cI cJ cZ h0 a K V fz F rs (xs (i + 1)) rs1 r2 e2) (cwV 1 hts (gd_law (in_V kw_2053 kw_2054 kw_2055 kw_191 kc_X12_stream)) rfl rfl rfl (by decide +kernel) ⟨Nat.le_of_ble_eq_true rfl, Nat.le_of_ble_eq_true rfl⟩) rfl hl.1 (Nat.le_of_ble_eq_true rfl) ⟨hR1, hR2⟩ dL_law_229 (fun H2 locs2 hP2 hD2 hS2 hz2 => ?_)
  refine lv_icmp_eq (tgt := 750) hx hb dL_law_232 (by decide) (fun c_ => ?_) (fun c_ => ?_)
  · exact kk H2 locs2 (va_P_sw hP2) (va_D_sw hD2) hS2 (hz2.trans hz1)
  · exact absurd hq c_
set_option maxRecDepth 100000 in
theorem ls_3 {p : Program} {l : Launch} {e : Env} {s : State} {m : MethodId} {below : List Frame} {meth : Method} {c : Code} {dC : Nat → ClassId} {dI : Nat → Nat → Nat} {cB cI cJ cZ cS cO : ClassId} {bb L : Nat} {xs : Nat → Int32} {K V : Nat → Nat} {fz : Value} {A : Nat → Prop} {b h0 : Nat} {a : Nat → Nat} (C0 : lw_At p s m meth c bb L xs) (hZ : zE K V fz A s) (hA : ∀ q : Nat, s.heap.size ≤ q → A q) (hbA : ¬ A bb) (hbe : s.heap.size = b) (hK : va_K (dC, dI) vwCl [(cB, .byte), (cI, .int), (cJ, .long), (cZ, .boolean), (cS, .object "StreamQueries$Source"), (cO, .object "java/lang/Object")] s) {F i : Nat} {cs cs9 : CS} {rs rs9 : RS} {H : Heap} {locs : List Loc} {ls : Array Slot} (hi : i + 6 ≤ L) (hL : L ≤ 384) (hP : va_P (dC, dI) vwCl (cW cB cI cJ cZ cS cO b cs ++ mW cB cI cJ cZ h0 a rs) H) (hD : va_D A (cW cB cI cJ cZ cS cO b cs ++ mW cB cI cJ cZ h0 a rs)) (hS : va_S A s.heap H locs) (hz : H.size = b + kK cs) (hf : lk_3 F cs rs (xs (i + 1)) (xs (i + 2)) (xs (i + 3)) (xs (i + 4)) (xs (i + 5)) = some (cs9, rs9)) (hR1 : kK cs9 ≤ 600000) (hR2 : kM cs9 ≤ 7302250) (hl : lv_has ls 4 [(3, .int (nI i)), (2, .ref h0), (1, .ref (b + 0)), (0, .ref bb)]) (kk : ∀ (H1 : Heap) (locs1 : List Loc), va_P (dC, dI) vwCl (cW cB cI cJ cZ cS cO b cs9 ++ mW cB cI cJ cZ h0 a rs9) H1 → va_D A (cW cB cI cJ cZ cS cO b cs9 ++ mW cB cI cJ cZ h0 a rs9) → va_S A s.heap H1 locs1 → H1.size = b + kK cs9 → W p l e room_1 s m #[Value.ref bb] below meth c H1 locs1 (kK cs9) (kM cs9) (lw_Z below #[Value.ref bb] s) (F0 m 750 ls [])) : W p l e room_1 s m #[Value.ref bb] below meth c H locs (kK cs) (kM cs) (lw_Z below #[Value.ref bb] s) (F0 m 237 ls []) := by
  obtain ⟨hx, hb, hr, hml, hown, hts, hX, hbl, hlocks, hgv⟩ := id C0
  unfold lk_3 at hf
  obtain ⟨u0, e0, hf⟩ := ob hf
  obtain ⟨⟨cs1, r1⟩, e1, hf⟩ := ob hf
  obtain ⟨⟨rs1, r2⟩, e2, hf⟩ := ob hf
  have hf : (if r1 = r2 then some (cs1, rs1) else none) = some (cs9, rs9) := hf
  by_cases hq : r1 = r2
  case neg => rw [if_neg hq] at hf; cases hf
  rw [if_pos hq] at hf
  have hc9 : cs1 = cs9 := congrArg Prod.fst (Option.some.inj hf)
  have hr9 : rs1 = rs9 := congrArg Prod.snd (Option.some.inj hf)
  subst hc9
  subst hr9
  have hmo := mo_c_X11_query F cs 0  cs1 r1 e1
  have hcc : s.heap.size + kK cs = b + kK cs := by rw [hbe]
  refine lv_aload_n hx hb dL_law_237 rfl (lv_at hl 2 rfl) ?_
  refine jaI (nL := 4) (As := []) (rest := []) (X := 12) (i := 0) (wf := mW cB cI cJ cZ h0 a rs) hx hb hml hts hown hK hP hD hS hA hz hcc hZ (by decide) rfl (ckE_some e0) (sa_X11_query l dC dI cB cI cJ cZ cS cO b K V fz F cs 0  cs1 r1 e1) (cwV 0 hts (gd_law (in_V kw_497 kw_498 kw_499 kw_181 kc_X11_query)) rfl rfl rfl (by decide +kernel) ⟨Nat.le_of_ble_eq_true rfl, Nat.le_of_ble_eq_true rfl⟩) rfl hl.1 (Nat.le_of_ble_eq_true rfl) ⟨by show kK cs + (kK cs1 - kK cs) ≤ 600000; omega, by show kM cs + (kM cs1 - kM cs) ≤ 7302250; omega⟩ dL_law_238 (fun H1 locs1 hP1 hD1 hS1 hz1 => ?_)
  rw [show kK cs + (kK cs1 - kK cs) = kK cs1 by omega, show kM cs + (kM cs1 - kM cs) = kM cs1 by omega]
  refine lv_aload_n hx hb dL_law_241 rfl (lv_at hl 1 rfl) ?_
  refine jmI (b := b) (nL := 4) (As := []) (rest := [.int r1]) (wf := cW cB cI cJ cZ cS cO b cs1) hx hb hml hts hown hK (va_P_sw hP1) (va_D_sw hD1) hS1 hA (by rw [hz1, hbe]) hZ (s_query l dC dI cB cI cJ cZ h0 a K V fz F rs  rs1 r2 e2) (cwV 0 hts (gd_law (in_V kw_2220 kw_2221 kw_2222 kw_191 kc_X12_query)) rfl rfl rfl (by decide +kernel) ⟨Nat.le_of_ble_eq_true rfl, Nat.le_of_ble_eq_true rfl⟩) rfl hl.1 (Nat.le_of_ble_eq_true rfl) ⟨hR1, hR2⟩ dL_law_242 (fun H2 locs2 hP2 hD2 hS2 hz2 => ?_)
  refine lv_icmp_eq (tgt := 750) hx hb dL_law_245 (by decide) (fun c_ => ?_) (fun c_ => ?_)
  · exact kk H2 locs2 (va_P_sw hP2) (va_D_sw hD2) hS2 (hz2.trans hz1)
  · exact absurd hq c_
