/-! rows compared: NULL first, then numbers; where down has a cell's bit the other way -/
def lcI (x y : Int64) : Int32 := if y ≤ x then (if x = y then 0 else 1) else -1
def sgI (b1 b2 : Int32) (v1 v2 : Int64) : Int32 := if b2 - b1 = 0 then lcI v1 v2 else b2 - b1
def dnI (dn : Int32) (i : Nat) (g : Int32) : Int32 := if 8 ≤ i then g else if (dn >>> (nI i &&& 31)) &&& 1 = 0 then g else -g
def cmF (v1 : Nat → Int64) (b1 : Nat → Int32) (m1 : Nat) (v2 : Nat → Int64) (b2 : Nat → Int32) (t1 : Nat) (dn : Int32) : Nat → Nat → Int32
  | 0, _ => 0
  | n + 1, i => if sgI (b1 (m1 + i)) (b2 (t1 + i)) (v1 (m1 + i)) (v2 (t1 + i)) = 0 then cmF v1 b1 m1 v2 b2 t1 dn n (i + 1) else dnI dn i (sgI (b1 (m1 + i)) (b2 (t1 + i)) (v1 (m1 + i)) (v2 (t1 + i)))
theorem cmF_z {v1 : Nat → Int64} {b1 : Nat → Int32} {m1 : Nat} {v2 : Nat → Int64} {b2 : Nat → Int32} {t1 : Nat} {dn : Int32} {w i : Nat} (hi : i < w) (h : sgI (b1 (m1 + i)) (b2 (t1 + i)) (v1 (m1 + i)) (v2 (t1 + i)) = 0) : cmF v1 b1 m1 v2 b2 t1 dn (w - i) i = cmF v1 b1 m1 v2 b2 t1 dn (w - (i + 1)) (i + 1) := by
  rw [show w - i = (w - (i + 1)) + 1 by omega]
  exact if_pos h
theorem cmF_n {v1 : Nat → Int64} {b1 : Nat → Int32} {m1 : Nat} {v2 : Nat → Int64} {b2 : Nat → Int32} {t1 : Nat} {dn : Int32} {w i : Nat} (hi : i < w) (h : ¬ sgI (b1 (m1 + i)) (b2 (t1 + i)) (v1 (m1 + i)) (v2 (t1 + i)) = 0) : cmF v1 b1 m1 v2 b2 t1 dn (w - i) i = dnI dn i (sgI (b1 (m1 + i)) (b2 (t1 + i)) (v1 (m1 + i)) (v2 (t1 + i))) := by
  rw [show w - i = (w - (i + 1)) + 1 by omega]
  exact if_neg h
set_option maxRecDepth 20000 in
theorem kc_J13_compare_74951 : Cond.code yJ13_compare_74951 cJ13_compare_74951 4 (some .int) ∈ wsG := kGm (tab_6 (List.mem_of_getElem? (i := 123) rfl)) rfl
theorem dJ13_compare_74951_0 : decode cJ13_compare_74951 0 = .ok (.lload_n 0, 1) := by decide +kernel
theorem dJ13_compare_74951_1 : decode cJ13_compare_74951 1 = .ok (.lload_n 2, 1) := by decide +kernel
theorem dJ13_compare_74951_2 : decode cJ13_compare_74951 2 = .ok (.lcmp, 1) := by decide +kernel
theorem dJ13_compare_74951_3 : decode cJ13_compare_74951 3 = .ok (.ifCond .ge 7, 3) := by decide +kernel
theorem dJ13_compare_74951_6 : decode cJ13_compare_74951 6 = .ok (.iconst (-1), 1) := by decide +kernel
theorem dJ13_compare_74951_7 : decode cJ13_compare_74951 7 = .ok (.goto 14, 3) := by decide +kernel
theorem dJ13_compare_74951_10 : decode cJ13_compare_74951 10 = .ok (.lload_n 0, 1) := by decide +kernel
theorem dJ13_compare_74951_11 : decode cJ13_compare_74951 11 = .ok (.lload_n 2, 1) := by decide +kernel
theorem dJ13_compare_74951_12 : decode cJ13_compare_74951 12 = .ok (.lcmp, 1) := by decide +kernel
theorem dJ13_compare_74951_13 : decode cJ13_compare_74951 13 = .ok (.ifCond .ne 7, 3) := by decide +kernel
theorem dJ13_compare_74951_16 : decode cJ13_compare_74951 16 = .ok (.iconst 0, 1) := by decide +kernel
theorem dJ13_compare_74951_17 : decode cJ13_compare_74951 17 = .ok (.goto 4, 3) := by decide +kernel
theorem dJ13_compare_74951_20 : decode cJ13_compare_74951 20 = .ok (.iconst 1, 1) := by decide +kernel
theorem dJ13_compare_74951_21 : decode cJ13_compare_74951 21 = .ok (.ireturn, 1) := by decide +kernel
abbrev cs_t_lcompare (cB cI cJ cZ : ClassId) (x y : Int64) : va_W := []
abbrev pc_t_lcompare (dC : Nat → ClassId) (dI : Nat → Nat → Nat) (sz : Nat) (cB cI cJ cZ : ClassId) (x y : Int64) : Array Value → State → Prop := va_Pc [.long x, .long y] (fun U => U.heap.size = sz ∧ va_P (dC, dI) vwCl [] U.heap ∧ va_K (dC, dI) vwCl [(cB, .byte), (cI, .int), (cJ, .long), (cZ, .boolean)] U ∧ va_D (fun _ => True) [])
abbrev qc_t_lcompare (dC : Nat → ClassId) (dI : Nat → Nat → Nat) (cB cI cJ cZ : ClassId) (x y : Int64) (A : Nat → Prop) : Array Value → State → Outcome → State → Prop := va_Qi (fun (r : Int32) (u : Unit) => match u with | _ => r = lcI x y) (fun (u : Unit) t_ => match u with | _ => va_P (dC, dI) vwCl [] t_.heap ∧ va_K (dC, dI) vwCl [(cB, .byte), (cI, .int), (cJ, .long), (cZ, .boolean)] t_ ∧ va_D A []) A
set_option maxHeartbeats 4000000 in
set_option maxRecDepth 100000 in
theorem t_lcompare (l : Launch) (dC : Nat → ClassId) (dI : Nat → Nat → Nat) (sz : Nat) (cB cI cJ cZ : ClassId) (x y : Int64)  : Met l yJ13_compare_74951 (wsOf yJ13_compare_74951 cJ13_compare_74951 4 (some .int)) ({ frames := 0, cells := 0, slots := 0, locals := 0 }) (pc_t_lcompare dC dI sz cB cI cJ cZ x y) (qc_t_lcompare dC dI cB cI cJ cZ x y (va_A (cs_t_lcompare cB cI cJ cZ x y) sz)) 0 0 (va_A (cs_t_lcompare cB cI cJ cZ x y) sz) := by
  refine Met.ofW (cc := cJ13_compare_74951) (maxL := 4) (ret := (some .int)) (by decide) rfl ?_
  intro p e s m args below meth c s₁ B hml hv
  obtain ⟨rfl, hsz, hP, hK, hD0⟩ := hv
  have hx := B.exec
  have hb := B.bytes
  have hr := B.returns
  have hts := atoms_spec (ws := (wsOf yJ13_compare_74951 cJ13_compare_74951 4 (some .int))) B.pre
  have hown : s.vm.findClass RJ13 = some m.cls := findClass_of_methodNamed B.named
  have hlocks := B.notSynchronized
  subst hsz
  have hD := hD0.self (sz := s.heap.size)
  generalize hAe : va_A (cs_t_lcompare cB cI cJ cZ x y) s.heap.size = A at hD ⊢
  have hA : ∀ q : Nat, s.heap.size ≤ q → A q := fun q h => by rw [← hAe]; exact Or.inr h
  have hS : va_S A s.heap s.heap [] := va_S.rf
  have hP : va_P (dC, dI) vwCl [] s.heap := hP
  have hl := lv_entry ([.long x, .long y]) (n := 4) (Nat.le_of_ble_eq_true rfl)
  rw [lg_entry_eq]
  generalize (lg_sl ([.long x, .long y]) ++ List.replicate (4 - (lg_sl ([.long x, .long y])).length) Slot.unset).toArray = ls at hl ⊢
  have hl : lv_has ls 4 [(0, .long x), (2, .long y)] := hl
  refine lv_lload_n hx hb dJ13_compare_74951_0 rfl (lv_at hl 0 rfl) ?_
  refine lv_lload_n hx hb dJ13_compare_74951_1 rfl (lv_at hl 1 rfl) ?_
  refine W.lcmp hx hb dJ13_compare_74951_2 ?_
  refine lv_if_ge (tgt := 10) hx hb dJ13_compare_74951_3 (by decide) (fun c_1 => ?_) (fun c_1 => ?_)
  · skip
    have c_1 : y ≤ x := (lg_cmp_ge x y).mp c_1
    refine lv_lload_n hx hb dJ13_compare_74951_10 rfl (lv_at hl 0 rfl) ?_
    refine lv_lload_n hx hb dJ13_compare_74951_11 rfl (lv_at hl 1 rfl) ?_
    refine W.lcmp hx hb dJ13_compare_74951_12 ?_
    refine lv_if_ne (tgt := 20) hx hb dJ13_compare_74951_13 (by decide) (fun c_2 => ?_) (fun c_2 => ?_)
    · skip
      have c_2 : ¬ (x = y) := fun h => c_2 ((lg_cmp_eq x y).mpr h)
      refine lv_iconst (v := 1) hx hb dJ13_compare_74951_20 (by decide) ?_
      have hP9 := hP.sub (ws' := []) [] rfl
      have hD9 := hD.sub (ws' := []) [] (by decide) rfl
      have hK9 := hK.sub (tys' := [(cB, .byte), (cI, .int), (cJ, .long), (cZ, .boolean)]) [0, 1, 2, 3] rfl
      exact W.iret (v := 1) hx hb hr (fun t_ ht hW => ⟨⟨1, (), rfl, by unfold lcI; rw [if_pos c_1, if_neg c_2], by rw [ht]; exact hP9, va_K.moved hW.alike hK9, hD9⟩, hS.F ht⟩) hS.2.2 dJ13_compare_74951_21
    · skip
      have c_2 : x = y := (lg_cmp_eq x y).mp c_2
      refine lv_iconst (v := 0) hx hb dJ13_compare_74951_16 (by decide) ?_
      refine lv_goto (tgt := 21) hx hb dJ13_compare_74951_17 (by decide) ?_
      have hP9 := hP.sub (ws' := []) [] rfl
      have hD9 := hD.sub (ws' := []) [] (by decide) rfl
      have hK9 := hK.sub (tys' := [(cB, .byte), (cI, .int), (cJ, .long), (cZ, .boolean)]) [0, 1, 2, 3] rfl
      exact W.iret (v := 0) hx hb hr (fun t_ ht hW => ⟨⟨0, (), rfl, by unfold lcI; rw [if_pos c_1, if_pos c_2], by rw [ht]; exact hP9, va_K.moved hW.alike hK9, hD9⟩, hS.F ht⟩) hS.2.2 dJ13_compare_74951_21
  · skip
    have c_1 : ¬ (y ≤ x) := fun h => c_1 ((lg_cmp_ge x y).mpr h)
    refine lv_iconst (v := (-1)) hx hb dJ13_compare_74951_6 (by decide) ?_
    refine lv_goto (tgt := 21) hx hb dJ13_compare_74951_7 (by decide) ?_
    have hP9 := hP.sub (ws' := []) [] rfl
    have hD9 := hD.sub (ws' := []) [] (by decide) rfl
    have hK9 := hK.sub (tys' := [(cB, .byte), (cI, .int), (cJ, .long), (cZ, .boolean)]) [0, 1, 2, 3] rfl
    exact W.iret (v := (-1)) hx hb hr (fun t_ ht hW => ⟨⟨(-1), (), rfl, by unfold lcI; rw [if_neg c_1], by rw [ht]; exact hP9, va_K.moved hW.alike hK9, hD9⟩, hS.F ht⟩) hS.2.2 dJ13_compare_74951_21
theorem dX8_compareRows_0 : decode cX8_compareRows 0 = .ok (.iconst 0, 1) := by decide +kernel
theorem dX8_compareRows_1 : decode cX8_compareRows 1 = .ok (.istore 6, 2) := by decide +kernel
theorem dX8_compareRows_3 : decode cX8_compareRows 3 = .ok (.iload 6, 2) := by decide +kernel
theorem dX8_compareRows_5 : decode cX8_compareRows 5 = .ok (.iload 4, 2) := by decide +kernel
theorem dX8_compareRows_7 : decode cX8_compareRows 7 = .ok (.if_icmp .ge 113, 3) := by decide +kernel
theorem dX8_compareRows_10 : decode cX8_compareRows 10 = .ok (.aload_n 0, 1) := by decide +kernel
theorem dX8_compareRows_11 : decode cX8_compareRows 11 = .ok (.iload_n 1, 1) := by decide +kernel
theorem dX8_compareRows_12 : decode cX8_compareRows 12 = .ok (.iload 6, 2) := by decide +kernel
theorem dX8_compareRows_14 : decode cX8_compareRows 14 = .ok (.iadd, 1) := by decide +kernel
theorem dX8_compareRows_15 : decode cX8_compareRows 15 = .ok (.invokevirtual 35, 3) := by decide +kernel
theorem dX8_compareRows_18 : decode cX8_compareRows 18 = .ok (.ifCond .eq 14, 3) := by decide +kernel
theorem dX8_compareRows_21 : decode cX8_compareRows 21 = .ok (.aload_n 2, 1) := by decide +kernel
theorem dX8_compareRows_22 : decode cX8_compareRows 22 = .ok (.iload_n 3, 1) := by decide +kernel
theorem dX8_compareRows_23 : decode cX8_compareRows 23 = .ok (.iload 6, 2) := by decide +kernel
theorem dX8_compareRows_25 : decode cX8_compareRows 25 = .ok (.iadd, 1) := by decide +kernel
theorem dX8_compareRows_26 : decode cX8_compareRows 26 = .ok (.invokevirtual 35, 3) := by decide +kernel
theorem dX8_compareRows_29 : decode cX8_compareRows 29 = .ok (.ifCond .ne 5, 3) := by decide +kernel
theorem dX8_compareRows_32 : decode cX8_compareRows 32 = .ok (.iconst 0, 1) := by decide +kernel
theorem dX8_compareRows_33 : decode cX8_compareRows 33 = .ok (.ireturn, 1) := by decide +kernel
theorem dX8_compareRows_34 : decode cX8_compareRows 34 = .ok (.aload_n 2, 1) := by decide +kernel
theorem dX8_compareRows_35 : decode cX8_compareRows 35 = .ok (.getfield 15, 3) := by decide +kernel
theorem dX8_compareRows_38 : decode cX8_compareRows 38 = .ok (.iload_n 3, 1) := by decide +kernel
theorem dX8_compareRows_39 : decode cX8_compareRows 39 = .ok (.iload 6, 2) := by decide +kernel
theorem dX8_compareRows_41 : decode cX8_compareRows 41 = .ok (.iadd, 1) := by decide +kernel
theorem dX8_compareRows_42 : decode cX8_compareRows 42 = .ok (.baload, 1) := by decide +kernel
theorem dX8_compareRows_43 : decode cX8_compareRows 43 = .ok (.aload_n 0, 1) := by decide +kernel
theorem dX8_compareRows_44 : decode cX8_compareRows 44 = .ok (.getfield 15, 3) := by decide +kernel
theorem dX8_compareRows_47 : decode cX8_compareRows 47 = .ok (.iload_n 1, 1) := by decide +kernel
theorem dX8_compareRows_48 : decode cX8_compareRows 48 = .ok (.iload 6, 2) := by decide +kernel
theorem dX8_compareRows_50 : decode cX8_compareRows 50 = .ok (.iadd, 1) := by decide +kernel
theorem dX8_compareRows_51 : decode cX8_compareRows 51 = .ok (.baload, 1) := by decide +kernel
theorem dX8_compareRows_52 : decode cX8_compareRows 52 = .ok (.isub, 1) := by decide +kernel
theorem dX8_compareRows_53 : decode cX8_compareRows 53 = .ok (.istore 7, 2) := by decide +kernel
theorem dX8_compareRows_55 : decode cX8_compareRows 55 = .ok (.iload 7, 2) := by decide +kernel
theorem dX8_compareRows_57 : decode cX8_compareRows 57 = .ok (.ifCond .ne 26, 3) := by decide +kernel
theorem dX8_compareRows_60 : decode cX8_compareRows 60 = .ok (.aload_n 0, 1) := by decide +kernel
theorem dX8_compareRows_61 : decode cX8_compareRows 61 = .ok (.getfield 11, 3) := by decide +kernel
theorem dX8_compareRows_64 : decode cX8_compareRows 64 = .ok (.iload_n 1, 1) := by decide +kernel
theorem dX8_compareRows_65 : decode cX8_compareRows 65 = .ok (.iload 6, 2) := by decide +kernel
theorem dX8_compareRows_67 : decode cX8_compareRows 67 = .ok (.iadd, 1) := by decide +kernel
theorem dX8_compareRows_68 : decode cX8_compareRows 68 = .ok (.laload, 1) := by decide +kernel
theorem dX8_compareRows_69 : decode cX8_compareRows 69 = .ok (.aload_n 2, 1) := by decide +kernel
theorem dX8_compareRows_70 : decode cX8_compareRows 70 = .ok (.getfield 11, 3) := by decide +kernel
theorem dX8_compareRows_73 : decode cX8_compareRows 73 = .ok (.iload_n 3, 1) := by decide +kernel
theorem dX8_compareRows_74 : decode cX8_compareRows 74 = .ok (.iload 6, 2) := by decide +kernel
theorem dX8_compareRows_76 : decode cX8_compareRows 76 = .ok (.iadd, 1) := by decide +kernel
theorem dX8_compareRows_77 : decode cX8_compareRows 77 = .ok (.laload, 1) := by decide +kernel
theorem dX8_compareRows_78 : decode cX8_compareRows 78 = .ok (.invokestatic 55, 3) := by decide +kernel
theorem dX8_compareRows_81 : decode cX8_compareRows 81 = .ok (.istore 7, 2) := by decide +kernel
theorem dX8_compareRows_83 : decode cX8_compareRows 83 = .ok (.iload 7, 2) := by decide +kernel
theorem dX8_compareRows_85 : decode cX8_compareRows 85 = .ok (.ifCond .eq 29, 3) := by decide +kernel
theorem dX8_compareRows_88 : decode cX8_compareRows 88 = .ok (.iload 6, 2) := by decide +kernel
theorem dX8_compareRows_90 : decode cX8_compareRows 90 = .ok (.bipush 8, 2) := by decide +kernel
theorem dX8_compareRows_92 : decode cX8_compareRows 92 = .ok (.if_icmp .ge 19, 3) := by decide +kernel
theorem dX8_compareRows_95 : decode cX8_compareRows 95 = .ok (.iload 5, 2) := by decide +kernel
theorem dX8_compareRows_97 : decode cX8_compareRows 97 = .ok (.iload 6, 2) := by decide +kernel
theorem dX8_compareRows_99 : decode cX8_compareRows 99 = .ok (.ishr, 1) := by decide +kernel
theorem dX8_compareRows_100 : decode cX8_compareRows 100 = .ok (.iconst 1, 1) := by decide +kernel
theorem dX8_compareRows_101 : decode cX8_compareRows 101 = .ok (.iand, 1) := by decide +kernel
theorem dX8_compareRows_102 : decode cX8_compareRows 102 = .ok (.ifCond .eq 9, 3) := by decide +kernel
theorem dX8_compareRows_105 : decode cX8_compareRows 105 = .ok (.iload 7, 2) := by decide +kernel
theorem dX8_compareRows_107 : decode cX8_compareRows 107 = .ok (.ineg, 1) := by decide +kernel
theorem dX8_compareRows_108 : decode cX8_compareRows 108 = .ok (.goto 5, 3) := by decide +kernel
theorem dX8_compareRows_111 : decode cX8_compareRows 111 = .ok (.iload 7, 2) := by decide +kernel
theorem dX8_compareRows_113 : decode cX8_compareRows 113 = .ok (.ireturn, 1) := by decide +kernel
theorem dX8_compareRows_114 : decode cX8_compareRows 114 = .ok (.iinc 6 1, 3) := by decide +kernel
theorem dX8_compareRows_117 : decode cX8_compareRows 117 = .ok (.goto (-114), 3) := by decide +kernel
theorem dX8_compareRows_120 : decode cX8_compareRows 120 = .ok (.iconst 0, 1) := by decide +kernel
theorem dX8_compareRows_121 : decode cX8_compareRows 121 = .ok (.ireturn, 1) := by decide +kernel
abbrev cs_t_compareRows_d (cB cI cJ cZ : ClassId) (h0 hV hB n : Nat) (v1 : Nat → Int64) (b1 : Nat → Int32) (wo wp : Value) (h1 hU hE n2 : Nat) (v2 : Nat → Int64) (b2 : Nat → Int32) (xo xp : Value) (m1 t1 w1 : Nat) (dn : Int32) : va_W := [(h0, .inr (9, [.ref hV, .ref hB, wo, wp])), (hV, .inl (cJ, n, .inr (.inl v1))), (hB, .inl (cB, n, .inl b1)), (h1, .inr (9, [.ref hU, .ref hE, xo, xp])), (hU, .inl (cJ, n2, .inr (.inl v2))), (hE, .inl (cB, n2, .inl b2))]
abbrev pc_t_compareRows_d (dC : Nat → ClassId) (dI : Nat → Nat → Nat) (sz : Nat) (cB cI cJ cZ : ClassId) (h0 hV hB n : Nat) (v1 : Nat → Int64) (b1 : Nat → Int32) (wo wp : Value) (h1 hU hE n2 : Nat) (v2 : Nat → Int64) (b2 : Nat → Int32) (xo xp : Value) (m1 t1 w1 : Nat) (dn : Int32) : Array Value → State → Prop := va_Pc [.ref h0, .int (nI m1), .ref h1, .int (nI t1), .int (nI w1), .int dn] (fun U => U.heap.size = sz ∧ va_P (dC, dI) vwCl [(h0, .inr (9, [.ref hV, .ref hB, wo, wp])), (hV, .inl (cJ, n, .inr (.inl v1))), (hB, .inl (cB, n, .inl b1)), (h1, .inr (9, [.ref hU, .ref hE, xo, xp])), (hU, .inl (cJ, n2, .inr (.inl v2))), (hE, .inl (cB, n2, .inl b2))] U.heap ∧ va_K (dC, dI) vwCl [(cB, .byte), (cI, .int), (cJ, .long), (cZ, .boolean)] U ∧ va_D (fun _ => True) [(h0, .inr (9, [.ref hV, .ref hB, wo, wp])), (hV, .inl (cJ, n, .inr (.inl v1))), (hB, .inl (cB, n, .inl b1)), (h1, .inr (9, [.ref hU, .ref hE, xo, xp])), (hU, .inl (cJ, n2, .inr (.inl v2))), (hE, .inl (cB, n2, .inl b2))])
abbrev qc_t_compareRows_d (dC : Nat → ClassId) (dI : Nat → Nat → Nat) (cB cI cJ cZ : ClassId) (h0 hV hB n : Nat) (v1 : Nat → Int64) (b1 : Nat → Int32) (wo wp : Value) (h1 hU hE n2 : Nat) (v2 : Nat → Int64) (b2 : Nat → Int32) (xo xp : Value) (m1 t1 w1 : Nat) (dn : Int32) (A : Nat → Prop) : Array Value → State → Outcome → State → Prop := va_Qi (fun (r : Int32) (u : Unit) => match u with | _ => r = cmF v1 b1 m1 v2 b2 t1 dn w1 0) (fun (u : Unit) t_ => match u with | _ => va_P (dC, dI) vwCl [(h0, .inr (9, [.ref hV, .ref hB, wo, wp])), (hV, .inl (cJ, n, .inr (.inl v1))), (hB, .inl (cB, n, .inl b1)), (h1, .inr (9, [.ref hU, .ref hE, xo, xp])), (hU, .inl (cJ, n2, .inr (.inl v2))), (hE, .inl (cB, n2, .inl b2))] t_.heap ∧ va_K (dC, dI) vwCl [(cB, .byte), (cI, .int), (cJ, .long), (cZ, .boolean)] t_ ∧ va_D A [(h0, .inr (9, [.ref hV, .ref hB, wo, wp])), (hV, .inl (cJ, n, .inr (.inl v1))), (hB, .inl (cB, n, .inl b1)), (h1, .inr (9, [.ref hU, .ref hE, xo, xp])), (hU, .inl (cJ, n2, .inr (.inl v2))), (hE, .inl (cB, n2, .inl b2))]) A
set_option maxHeartbeats 4000000 in
set_option maxRecDepth 100000 in
theorem t_compareRows_d (l : Launch) (dC : Nat → ClassId) (dI : Nat → Nat → Nat) (sz : Nat) (cB cI cJ cZ : ClassId) (h0 hV hB n : Nat) (v1 : Nat → Int64) (b1 : Nat → Int32) (wo wp : Value) (h1 hU hE n2 : Nat) (v2 : Nat → Int64) (b2 : Nat → Int32) (xo xp : Value) (m1 t1 w1 : Nat) (dn : Int32) (hn : n < 500000) (hn2 : n2 < 500000) (hm : m1 + w1 ≤ n) (ht : t1 + w1 ≤ n2) : Met l yX8_compareRows (wsOf yX8_compareRows cX8_compareRows 8 (some .int)) ({ frames := 1, cells := 0, slots := 0, locals := 60 }) (pc_t_compareRows_d dC dI sz cB cI cJ cZ h0 hV hB n v1 b1 wo wp h1 hU hE n2 v2 b2 xo xp m1 t1 w1 dn) (qc_t_compareRows_d dC dI cB cI cJ cZ h0 hV hB n v1 b1 wo wp h1 hU hE n2 v2 b2 xo xp m1 t1 w1 dn (va_A (cs_t_compareRows_d cB cI cJ cZ h0 hV hB n v1 b1 wo wp h1 hU hE n2 v2 b2 xo xp m1 t1 w1 dn) sz)) 0 0 (va_A (cs_t_compareRows_d cB cI cJ cZ h0 hV hB n v1 b1 wo wp h1 hU hE n2 v2 b2 xo xp m1 t1 w1 dn) sz) := by
  refine Met.ofW (cc := cX8_compareRows) (maxL := 8) (ret := (some .int)) (by decide) rfl ?_
  intro p e s m args below meth c s₁ B hml hv
  obtain ⟨rfl, hsz, hP, hK, hD0⟩ := hv
  have hx := B.exec
  have hb := B.bytes
  have hr := B.returns
  have hts := atoms_spec (ws := (wsOf yX8_compareRows cX8_compareRows 8 (some .int))) B.pre
  have hown : s.vm.findClass RX8 = some m.cls := findClass_of_methodNamed B.named
  have hlocks := B.notSynchronized
  subst hsz
  have hD := hD0.self (sz := s.heap.size)
  generalize hAe : va_A (cs_t_compareRows_d cB cI cJ cZ h0 hV hB n v1 b1 wo wp h1 hU hE n2 v2 b2 xo xp m1 t1 w1 dn) s.heap.size = A at hD ⊢
  have hA : ∀ q : Nat, s.heap.size ≤ q → A q := fun q h => by rw [← hAe]; exact Or.inr h
  have hS : va_S A s.heap s.heap [] := va_S.rf
  have hP : va_P (dC, dI) vwCl [(h0, .inr (9, [.ref hV, .ref hB, wo, wp])), (hV, .inl (cJ, n, .inr (.inl v1))), (hB, .inl (cB, n, .inl b1)), (h1, .inr (9, [.ref hU, .ref hE, xo, xp])), (hU, .inl (cJ, n2, .inr (.inl v2))), (hE, .inl (cB, n2, .inl b2))] s.heap := hP
  have hl := lv_entry ([.ref h0, .int (nI m1), .ref h1, .int (nI t1), .int (nI w1), .int dn]) (n := 8) (Nat.le_of_ble_eq_true rfl)
  rw [lg_entry_eq]
  generalize (lg_sl ([.ref h0, .int (nI m1), .ref h1, .int (nI t1), .int (nI w1), .int dn]) ++ List.replicate (8 - (lg_sl ([.ref h0, .int (nI m1), .ref h1, .int (nI t1), .int (nI w1), .int dn])).length) Slot.unset).toArray = ls at hl ⊢
  have hl : lv_has ls 8 [(0, .ref h0), (1, .int (nI m1)), (2, .ref h1), (3, .int (nI t1)), (4, .int (nI w1)), (5, .int dn)] := hl
  refine lv_iconst (v := 0) hx hb dX8_compareRows_0 (by decide) ?_
  refine lv_istore (lv' := [(6, .int 0), (0, .ref h0), (1, .int (nI m1)), (2, .ref h1), (3, .int (nI t1)), (4, .int (nI w1)), (5, .int dn)]) hx hb dX8_compareRows_1 hl (by decide) rfl (fun ls hl => ?_)
  have lp_3 : ∀ (n_ : Nat) (i : Nat), i ≤ w1 → cmF v1 b1 m1 v2 b2 t1 dn w1 0 = cmF v1 b1 m1 v2 b2 t1 dn (w1 - i) i → w1 - i < n_ → ∀ (H : Heap) (locs : List Loc) (ls : Array Slot), va_P (dC, dI) vwCl [(h0, .inr (9, [.ref hV, .ref hB, wo, wp])), (hV, .inl (cJ, n, .inr (.inl v1))), (hB, .inl (cB, n, .inl b1)), (h1, .inr (9, [.ref hU, .ref hE, xo, xp])), (hU, .inl (cJ, n2, .inr (.inl v2))), (hE, .inl (cB, n2, .inl b2))] H → va_D A [(h0, .inr (9, [.ref hV, .ref hB, wo, wp])), (hV, .inl (cJ, n, .inr (.inl v1))), (hB, .inl (cB, n, .inl b1)), (h1, .inr (9, [.ref hU, .ref hE, xo, xp])), (hU, .inl (cJ, n2, .inr (.inl v2))), (hE, .inl (cB, n2, .inl b2))] → va_S A s.heap H locs → lv_has ls 8 [(6, .int (nI i)), (0, .ref h0), (1, .int (nI m1)), (2, .ref h1), (3, .int (nI t1)), (4, .int (nI w1)), (5, .int dn)] → W p l e (headSpec (wsOf yX8_compareRows cX8_compareRows 8 (some .int)) ({ frames := 1, cells := 0, slots := 0, locals := 60 })).room s m ([.ref h0, .int (nI m1), .ref h1, .int (nI t1), .int (nI w1), .int dn] : List Value).toArray below meth c H locs 0 0 (MQ below (qc_t_compareRows_d dC dI cB cI cJ cZ h0 hV hB n v1 b1 wo wp h1 hU hE n2 v2 b2 xo xp m1 t1 w1 dn A) ([.ref h0, .int (nI m1), .ref h1, .int (nI t1), .int (nI w1), .int dn] : List Value).toArray s 0 0 A) (F0 m 3 ls []) := by
    intro n_
    induction n_ with
    | zero => intro i hi hin hm; exact absurd hm (Nat.not_lt_zero _)
    | succ n_ ih_3 =>
      intro i hi hin hm H locs ls hP hD hS hl
      refine lv_iload hx hb dX8_compareRows_3 (lv_at hl 0 rfl) ?_
      refine lv_iload hx hb dX8_compareRows_5 (lv_at hl 5 rfl) ?_
      refine lv_icmp_ge (tgt := 120) hx hb dX8_compareRows_7 (by decide) (fun c_1 => ?_) (fun c_1 => ?_)
      · skip
        have c_1 : w1 ≤ i := (nI_leI (a := w1) (b := i) (by omega) (by omega)).mp c_1
        refine lv_iconst (v := 0) hx hb dX8_compareRows_120 (by decide) ?_
        have hP9 := hP.sub (ws' := [(h0, .inr (9, [.ref hV, .ref hB, wo, wp])), (hV, .inl (cJ, n, .inr (.inl v1))), (hB, .inl (cB, n, .inl b1)), (h1, .inr (9, [.ref hU, .ref hE, xo, xp])), (hU, .inl (cJ, n2, .inr (.inl v2))), (hE, .inl (cB, n2, .inl b2))]) [0, 1, 2, 3, 4, 5] rfl
        have hD9 := hD.sub (ws' := [(h0, .inr (9, [.ref hV, .ref hB, wo, wp])), (hV, .inl (cJ, n, .inr (.inl v1))), (hB, .inl (cB, n, .inl b1)), (h1, .inr (9, [.ref hU, .ref hE, xo, xp])), (hU, .inl (cJ, n2, .inr (.inl v2))), (hE, .inl (cB, n2, .inl b2))]) [0, 1, 2, 3, 4, 5] (by decide) rfl
        have hK9 := hK.sub (tys' := [(cB, .byte), (cI, .int), (cJ, .long), (cZ, .boolean)]) [0, 1, 2, 3] rfl
        exact W.iret (v := 0) hx hb hr (fun t_ ht hW => ⟨⟨0, (), rfl, (by rw [hin, show w1 - i = 0 by omega]; rfl), by rw [ht]; exact hP9, va_K.moved hW.alike hK9, hD9⟩, hS.F ht⟩) hS.2.2 dX8_compareRows_121
      · skip
        have c_1 : ¬ (w1 ≤ i) := fun h => c_1 ((nI_leI (a := w1) (b := i) (by omega) (by omega)).mpr h)
        refine lv_aload_n hx hb dX8_compareRows_10 rfl (lv_at hl 1 rfl) ?_
        refine lv_iload_n hx hb dX8_compareRows_11 rfl (lv_at hl 2 rfl) ?_
        refine lv_iload hx hb dX8_compareRows_12 (lv_at hl 0 rfl) ?_
        refine lv_iadd hx hb dX8_compareRows_14 ?_
        refine lv_topi (fun x_2 ex_2 => ?_)
        have ex_2 : x_2 = nI (m1 + i) := ex_2.trans (nI_add m1 i)
        subst ex_2
        have hPc := hP.sub (ws' := [(h0, .inr (9, [.ref hV, .ref hB, wo, wp])), (hV, .inl (cJ, n, .inr (.inl v1))), (hB, .inl (cB, n, .inl b1))]) [0, 1, 2] rfl
        have hDc := hD.sub (ws' := [(h0, .inr (9, [.ref hV, .ref hB, wo, wp])), (hV, .inl (cJ, n, .inr (.inl v1))), (hB, .inl (cB, n, .inl b1))]) [0, 1, 2] (by decide) rfl
        have hKc := hK.sub (tys' := [(cB, .byte), (cI, .int), (cJ, .long), (cZ, .boolean)]) [0, 1, 2, 3] rfl
        have hFc := va_free (wc := [(h0, .inr (9, [.ref hV, .ref hB, wo, wp])), (hV, .inl (cJ, n, .inr (.inl v1))), (hB, .inl (cB, n, .inl b1))]) hD hS hA [0, 1, 2] rfl
        refine va_calli (va_runV (As := [.int (nI (m1 + i))]) (rest := []) ⟨hx, hb, hml, hown, hts⟩ (t_X8_holds l dC dI H.size cB cI cJ cZ h0 hV hB n v1 b1 wo wp (m1 + i) (by omega) (by omega)) (cwV 1 hts (gd_all (in_V kw_1360 kw_1362 kw_67 kw_188 kc_X8_holds)) rfl rfl rfl (by decide +kernel) ⟨Nat.le_of_ble_eq_true rfl, Nat.le_of_ble_eq_true rfl⟩) ⟨fun a U g mk q => by obtain ⟨q0, q1, qP, qK, qD⟩ := q; exact ⟨q0, q1, qP, va_K.moved (u := U) (U := U.calling g mk a) (Vm.Alike.refl U.vm) qK, qD⟩, va_recv hKc hPc (ci := 9) (q0 := 0) rfl rfl, fun U hU hW => ⟨rfl, by rw [hU], by rw [hU]; exact hPc, va_K.moved hW.alike hKc, hDc.weaken (fun _ _ _ _ => trivial)⟩⟩ rfl rfl hl.1 rfl (lv_room (Nat.le_of_ble_eq_true rfl)) dX8_compareRows_15 ⟨Nat.le_of_ble_eq_true rfl, Nat.le_of_ble_eq_true rfl⟩) hS (fun q _ h => hFc q h) hFc (fun r_3 u t_ H1 locs ht hvm hw hB hz1 hk1 hS => ?_)
        obtain ⟨hP1, hK1, hD1⟩ := hB
        rw [ht] at hP1
        have hK1 := va_K.moved hvm.symm hK1
        obtain ⟨hP, hD⟩ := va_join (wr := [(h1, .inr (9, [.ref hU, .ref hE, xo, xp])), (hU, .inl (cJ, n2, .inr (.inl v2))), (hE, .inl (cB, n2, .inl b2))]) (w1 := [(h0, .inr (9, [.ref hV, .ref hB, wo, wp])), (hV, .inl (cJ, n, .inr (.inl v1))), (hB, .inl (cB, n, .inl b1))]) hP hD [0, 1, 2] [3, 4, 5] rfl rfl (by decide) (by decide) hk1 hFc hP1 hD1
        have hK := (hK.sub (tys' := []) [] rfl).app hK1
        generalize H1 = H at hP hS ⊢
        have hP : va_P (dC, dI) vwCl [(h1, .inr (9, [.ref hU, .ref hE, xo, xp])), (hU, .inl (cJ, n2, .inr (.inl v2))), (hE, .inl (cB, n2, .inl b2)), (h0, .inr (9, [.ref hV, .ref hB, wo, wp])), (hV, .inl (cJ, n, .inr (.inl v1))), (hB, .inl (cB, n, .inl b1))] H := hP
        have hD : va_D A [(h1, .inr (9, [.ref hU, .ref hE, xo, xp])), (hU, .inl (cJ, n2, .inr (.inl v2))), (hE, .inl (cB, n2, .inl b2)), (h0, .inr (9, [.ref hV, .ref hB, wo, wp])), (hV, .inl (cJ, n, .inr (.inl v1))), (hB, .inl (cB, n, .inl b1))] := hD
        have hK : va_K (dC, dI) vwCl [(cB, .byte), (cI, .int), (cJ, .long), (cZ, .boolean)] s := hK
        have er_3 : r_3 = 1 := hw
        rw [er_3]
        refine lv_if_eq (tgt := 32) hx hb dX8_compareRows_18 (by decide) (fun c_4 => ?_) (fun c_4 => ?_)
        · skip
          exact absurd c_4 (by decide)
        · skip
          refine lv_aload_n hx hb dX8_compareRows_21 rfl (lv_at hl 3 rfl) ?_
          refine lv_iload_n hx hb dX8_compareRows_22 rfl (lv_at hl 4 rfl) ?_
          refine lv_iload hx hb dX8_compareRows_23 (lv_at hl 0 rfl) ?_
          refine lv_iadd hx hb dX8_compareRows_25 ?_
          refine lv_topi (fun x_5 ex_5 => ?_)
          have ex_5 : x_5 = nI (t1 + i) := ex_5.trans (nI_add t1 i)
          subst ex_5
          have hPc := hP.sub (ws' := [(h1, .inr (9, [.ref hU, .ref hE, xo, xp])), (hU, .inl (cJ, n2, .inr (.inl v2))), (hE, .inl (cB, n2, .inl b2))]) [0, 1, 2] rfl
          have hDc := hD.sub (ws' := [(h1, .inr (9, [.ref hU, .ref hE, xo, xp])), (hU, .inl (cJ, n2, .inr (.inl v2))), (hE, .inl (cB, n2, .inl b2))]) [0, 1, 2] (by decide) rfl
          have hKc := hK.sub (tys' := [(cB, .byte), (cI, .int), (cJ, .long), (cZ, .boolean)]) [0, 1, 2, 3] rfl
          have hFc := va_free (wc := [(h1, .inr (9, [.ref hU, .ref hE, xo, xp])), (hU, .inl (cJ, n2, .inr (.inl v2))), (hE, .inl (cB, n2, .inl b2))]) hD hS hA [0, 1, 2] rfl
          refine va_calli (va_runV (As := [.int (nI (t1 + i))]) (rest := []) ⟨hx, hb, hml, hown, hts⟩ (t_X8_holds l dC dI H.size cB cI cJ cZ h1 hU hE n2 v2 b2 xo xp (t1 + i) (by omega) (by omega)) (cwV 1 hts (gd_all (in_V kw_1360 kw_1362 kw_67 kw_188 kc_X8_holds)) rfl rfl rfl (by decide +kernel) ⟨Nat.le_of_ble_eq_true rfl, Nat.le_of_ble_eq_true rfl⟩) ⟨fun a U g mk q => by obtain ⟨q0, q1, qP, qK, qD⟩ := q; exact ⟨q0, q1, qP, va_K.moved (u := U) (U := U.calling g mk a) (Vm.Alike.refl U.vm) qK, qD⟩, va_recv hKc hPc (ci := 9) (q0 := 0) rfl rfl, fun U hU hW => ⟨rfl, by rw [hU], by rw [hU]; exact hPc, va_K.moved hW.alike hKc, hDc.weaken (fun _ _ _ _ => trivial)⟩⟩ rfl rfl hl.1 rfl (lv_room (Nat.le_of_ble_eq_true rfl)) dX8_compareRows_26 ⟨Nat.le_of_ble_eq_true rfl, Nat.le_of_ble_eq_true rfl⟩) hS (fun q _ h => hFc q h) hFc (fun r_6 u t_ H1 locs ht hvm hw hB hz1 hk1 hS => ?_)
          obtain ⟨hP1, hK1, hD1⟩ := hB
          rw [ht] at hP1
          have hK1 := va_K.moved hvm.symm hK1
          obtain ⟨hP, hD⟩ := va_join (wr := [(h0, .inr (9, [.ref hV, .ref hB, wo, wp])), (hV, .inl (cJ, n, .inr (.inl v1))), (hB, .inl (cB, n, .inl b1))]) (w1 := [(h1, .inr (9, [.ref hU, .ref hE, xo, xp])), (hU, .inl (cJ, n2, .inr (.inl v2))), (hE, .inl (cB, n2, .inl b2))]) hP hD [0, 1, 2] [3, 4, 5] rfl rfl (by decide) (by decide) hk1 hFc hP1 hD1
          have hK := (hK.sub (tys' := []) [] rfl).app hK1
          generalize H1 = H at hP hS ⊢
          have hP : va_P (dC, dI) vwCl [(h0, .inr (9, [.ref hV, .ref hB, wo, wp])), (hV, .inl (cJ, n, .inr (.inl v1))), (hB, .inl (cB, n, .inl b1)), (h1, .inr (9, [.ref hU, .ref hE, xo, xp])), (hU, .inl (cJ, n2, .inr (.inl v2))), (hE, .inl (cB, n2, .inl b2))] H := hP
          have hD : va_D A [(h0, .inr (9, [.ref hV, .ref hB, wo, wp])), (hV, .inl (cJ, n, .inr (.inl v1))), (hB, .inl (cB, n, .inl b1)), (h1, .inr (9, [.ref hU, .ref hE, xo, xp])), (hU, .inl (cJ, n2, .inr (.inl v2))), (hE, .inl (cB, n2, .inl b2))] := hD
          have hK : va_K (dC, dI) vwCl [(cB, .byte), (cI, .int), (cJ, .long), (cZ, .boolean)] s := hK
          have er_6 : r_6 = 1 := hw
          rw [er_6]
          refine lv_if_ne (tgt := 34) hx hb dX8_compareRows_29 (by decide) (fun c_7 => ?_) (fun c_7 => ?_)
          · skip
            refine lv_aload_n hx hb dX8_compareRows_34 rfl (lv_at hl 3 rfl) ?_
            refine va_get (D := (dC, dI)) (ci := 9) (v := .ref hE) (C := RX8) (T := TX8) (N := 4) hx hb hts (fun w h => List.mem_cons_of_mem _ (uG_X8 w h)) hown hK hP 3 rfl rfl 1 (by decide) (hts _ (List.mem_cons_of_mem _ kw_350)) (fun _ h9 => h9) rfl dX8_compareRows_35 ?_
            refine lv_iload_n hx hb dX8_compareRows_38 rfl (lv_at hl 4 rfl) ?_
            refine lv_iload hx hb dX8_compareRows_39 (lv_at hl 0 rfl) ?_
            refine lv_iadd hx hb dX8_compareRows_41 ?_
            refine lv_topi (fun x_8 ex_8 => ?_)
            have ex_8 : x_8 = nI (t1 + i) := ex_8.trans (nI_add t1 i)
            subst ex_8
            refine va_bald hx hb hK hP 5 0 rfl rfl (i := (nI (t1 + i))) (vp_in_nI (n := t1 + i) (N := n2) (by omega) (by omega)) dX8_compareRows_42 ?_
            refine lv_topi (fun x_9 ex_9 => ?_)
            have ex_9 : x_9 = b2 (t1 + i) := ex_9.trans (congrArg b2 (nI_clamp (n := t1 + i) (by omega)))
            subst ex_9
            refine lv_aload_n hx hb dX8_compareRows_43 rfl (lv_at hl 1 rfl) ?_
            refine va_get (D := (dC, dI)) (ci := 9) (v := .ref hB) (C := RX8) (T := TX8) (N := 4) hx hb hts (fun w h => List.mem_cons_of_mem _ (uG_X8 w h)) hown hK hP 0 rfl rfl 1 (by decide) (hts _ (List.mem_cons_of_mem _ kw_350)) (fun _ h9 => h9) rfl dX8_compareRows_44 ?_
            refine lv_iload_n hx hb dX8_compareRows_47 rfl (lv_at hl 2 rfl) ?_
            refine lv_iload hx hb dX8_compareRows_48 (lv_at hl 0 rfl) ?_
            refine lv_iadd hx hb dX8_compareRows_50 ?_
            refine lv_topi (fun x_10 ex_10 => ?_)
            have ex_10 : x_10 = nI (m1 + i) := ex_10.trans (nI_add m1 i)
            subst ex_10
            refine va_bald hx hb hK hP 2 0 rfl rfl (i := (nI (m1 + i))) (vp_in_nI (n := m1 + i) (N := n) (by omega) (by omega)) dX8_compareRows_51 ?_
            refine lv_topi (fun x_11 ex_11 => ?_)
            have ex_11 : x_11 = b1 (m1 + i) := ex_11.trans (congrArg b1 (nI_clamp (n := m1 + i) (by omega)))
            subst ex_11
            refine lv_isub hx hb dX8_compareRows_52 ?_
            refine lv_istore (lv' := [(7, .int ((b2 (t1 + i)) - (b1 (m1 + i)))), (6, .int (nI i)), (0, .ref h0), (1, .int (nI m1)), (2, .ref h1), (3, .int (nI t1)), (4, .int (nI w1)), (5, .int dn)]) hx hb dX8_compareRows_53 hl (by decide) rfl (fun ls hl => ?_)
            refine lv_iload hx hb dX8_compareRows_55 (lv_at hl 0 rfl) ?_
            refine lv_if_ne (tgt := 83) hx hb dX8_compareRows_57 (by decide) (fun c_12 => ?_) (fun c_12 => ?_)
            · skip
              refine lv_iload hx hb dX8_compareRows_83 (lv_at hl 0 rfl) ?_
              refine lv_if_eq (tgt := 114) hx hb dX8_compareRows_85 (by decide) (fun c_13 => ?_) (fun c_13 => ?_)
              · skip
                exact absurd c_13 c_12
              · skip
                refine lv_iload hx hb dX8_compareRows_88 (lv_at hl 1 rfl) ?_
                refine lv_bipush (v := 8) hx hb dX8_compareRows_90 (by decide) ?_
                refine lv_icmp_ge (tgt := 111) hx hb dX8_compareRows_92 (by decide) (fun c_14 => ?_) (fun c_14 => ?_)
                · skip
                  have c_14 : 8 ≤ i := (nI_leI (a := 8) (b := i) (by omega) (by omega)).mp c_14
                  refine lv_iload hx hb dX8_compareRows_111 (lv_at hl 0 rfl) ?_
                  have hP9 := hP.sub (ws' := [(h0, .inr (9, [.ref hV, .ref hB, wo, wp])), (hV, .inl (cJ, n, .inr (.inl v1))), (hB, .inl (cB, n, .inl b1)), (h1, .inr (9, [.ref hU, .ref hE, xo, xp])), (hU, .inl (cJ, n2, .inr (.inl v2))), (hE, .inl (cB, n2, .inl b2))]) [0, 1, 2, 3, 4, 5] rfl
                  have hD9 := hD.sub (ws' := [(h0, .inr (9, [.ref hV, .ref hB, wo, wp])), (hV, .inl (cJ, n, .inr (.inl v1))), (hB, .inl (cB, n, .inl b1)), (h1, .inr (9, [.ref hU, .ref hE, xo, xp])), (hU, .inl (cJ, n2, .inr (.inl v2))), (hE, .inl (cB, n2, .inl b2))]) [0, 1, 2, 3, 4, 5] (by decide) rfl
                  have hK9 := hK.sub (tys' := [(cB, .byte), (cI, .int), (cJ, .long), (cZ, .boolean)]) [0, 1, 2, 3] rfl
                  exact W.iret (v := ((b2 (t1 + i)) - (b1 (m1 + i)))) hx hb hr (fun t_ ht hW => ⟨⟨((b2 (t1 + i)) - (b1 (m1 + i))), (), rfl, by rw [hin, cmF_n (by omega) (by rw [(show sgI (b1 (m1 + i)) (b2 (t1 + i)) (v1 (m1 + i)) (v2 (t1 + i)) = (b2 (t1 + i)) - (b1 (m1 + i)) from if_neg c_12)]; exact c_12), (show sgI (b1 (m1 + i)) (b2 (t1 + i)) (v1 (m1 + i)) (v2 (t1 + i)) = (b2 (t1 + i)) - (b1 (m1 + i)) from if_neg c_12)]; unfold dnI; rw [if_pos c_14], by rw [ht]; exact hP9, va_K.moved hW.alike hK9, hD9⟩, hS.F ht⟩) hS.2.2 dX8_compareRows_113
                · skip
                  have c_14 : ¬ (8 ≤ i) := fun h => c_14 ((nI_leI (a := 8) (b := i) (by omega) (by omega)).mpr h)
                  refine lv_iload hx hb dX8_compareRows_95 (lv_at hl 7 rfl) ?_
                  refine lv_iload hx hb dX8_compareRows_97 (lv_at hl 1 rfl) ?_
                  refine lv_ishr hx hb dX8_compareRows_99 ?_
                  refine lv_iconst (v := 1) hx hb dX8_compareRows_100 (by decide) ?_
                  refine lv_iand hx hb dX8_compareRows_101 ?_
                  refine lv_if_eq (tgt := 111) hx hb dX8_compareRows_102 (by decide) (fun c_15 => ?_) (fun c_15 => ?_)
                  · skip
                    refine lv_iload hx hb dX8_compareRows_111 (lv_at hl 0 rfl) ?_
                    have hP9 := hP.sub (ws' := [(h0, .inr (9, [.ref hV, .ref hB, wo, wp])), (hV, .inl (cJ, n, .inr (.inl v1))), (hB, .inl (cB, n, .inl b1)), (h1, .inr (9, [.ref hU, .ref hE, xo, xp])), (hU, .inl (cJ, n2, .inr (.inl v2))), (hE, .inl (cB, n2, .inl b2))]) [0, 1, 2, 3, 4, 5] rfl
                    have hD9 := hD.sub (ws' := [(h0, .inr (9, [.ref hV, .ref hB, wo, wp])), (hV, .inl (cJ, n, .inr (.inl v1))), (hB, .inl (cB, n, .inl b1)), (h1, .inr (9, [.ref hU, .ref hE, xo, xp])), (hU, .inl (cJ, n2, .inr (.inl v2))), (hE, .inl (cB, n2, .inl b2))]) [0, 1, 2, 3, 4, 5] (by decide) rfl
                    have hK9 := hK.sub (tys' := [(cB, .byte), (cI, .int), (cJ, .long), (cZ, .boolean)]) [0, 1, 2, 3] rfl
                    exact W.iret (v := ((b2 (t1 + i)) - (b1 (m1 + i)))) hx hb hr (fun t_ ht hW => ⟨⟨((b2 (t1 + i)) - (b1 (m1 + i))), (), rfl, by rw [hin, cmF_n (by omega) (by rw [(show sgI (b1 (m1 + i)) (b2 (t1 + i)) (v1 (m1 + i)) (v2 (t1 + i)) = (b2 (t1 + i)) - (b1 (m1 + i)) from if_neg c_12)]; exact c_12), (show sgI (b1 (m1 + i)) (b2 (t1 + i)) (v1 (m1 + i)) (v2 (t1 + i)) = (b2 (t1 + i)) - (b1 (m1 + i)) from if_neg c_12)]; unfold dnI; rw [if_neg c_14, if_pos c_15], by rw [ht]; exact hP9, va_K.moved hW.alike hK9, hD9⟩, hS.F ht⟩) hS.2.2 dX8_compareRows_113
                  · skip
                    refine lv_iload hx hb dX8_compareRows_105 (lv_at hl 0 rfl) ?_
                    refine lv_ineg hx hb dX8_compareRows_107 ?_
                    refine lv_goto (tgt := 113) hx hb dX8_compareRows_108 (by decide) ?_
                    have hP9 := hP.sub (ws' := [(h0, .inr (9, [.ref hV, .ref hB, wo, wp])), (hV, .inl (cJ, n, .inr (.inl v1))), (hB, .inl (cB, n, .inl b1)), (h1, .inr (9, [.ref hU, .ref hE, xo, xp])), (hU, .inl (cJ, n2, .inr (.inl v2))), (hE, .inl (cB, n2, .inl b2))]) [0, 1, 2, 3, 4, 5] rfl
                    have hD9 := hD.sub (ws' := [(h0, .inr (9, [.ref hV, .ref hB, wo, wp])), (hV, .inl (cJ, n, .inr (.inl v1))), (hB, .inl (cB, n, .inl b1)), (h1, .inr (9, [.ref hU, .ref hE, xo, xp])), (hU, .inl (cJ, n2, .inr (.inl v2))), (hE, .inl (cB, n2, .inl b2))]) [0, 1, 2, 3, 4, 5] (by decide) rfl
                    have hK9 := hK.sub (tys' := [(cB, .byte), (cI, .int), (cJ, .long), (cZ, .boolean)]) [0, 1, 2, 3] rfl
                    exact W.iret (v := (-((b2 (t1 + i)) - (b1 (m1 + i))))) hx hb hr (fun t_ ht hW => ⟨⟨(-((b2 (t1 + i)) - (b1 (m1 + i)))), (), rfl, by rw [hin, cmF_n (by omega) (by rw [(show sgI (b1 (m1 + i)) (b2 (t1 + i)) (v1 (m1 + i)) (v2 (t1 + i)) = (b2 (t1 + i)) - (b1 (m1 + i)) from if_neg c_12)]; exact c_12), (show sgI (b1 (m1 + i)) (b2 (t1 + i)) (v1 (m1 + i)) (v2 (t1 + i)) = (b2 (t1 + i)) - (b1 (m1 + i)) from if_neg c_12)]; unfold dnI; rw [if_neg c_14, if_neg c_15], by rw [ht]; exact hP9, va_K.moved hW.alike hK9, hD9⟩, hS.F ht⟩) hS.2.2 dX8_compareRows_113
            · skip
              refine lv_aload_n hx hb dX8_compareRows_60 rfl (lv_at hl 2 rfl) ?_
              refine va_get (D := (dC, dI)) (ci := 9) (v := .ref hV) (C := RX8) (T := TX8) (N := 4) hx hb hts (fun w h => List.mem_cons_of_mem _ (uG_X8 w h)) hown hK hP 0 rfl rfl 0 (by decide) (hts _ (List.mem_cons_of_mem _ kw_349)) (fun _ h9 => h9) rfl dX8_compareRows_61 ?_
              refine lv_iload_n hx hb dX8_compareRows_64 rfl (lv_at hl 3 rfl) ?_
              refine lv_iload hx hb dX8_compareRows_65 (lv_at hl 1 rfl) ?_
              refine lv_iadd hx hb dX8_compareRows_67 ?_
              refine lv_topi (fun x_16 ex_16 => ?_)
              have ex_16 : x_16 = nI (m1 + i) := ex_16.trans (nI_add m1 i)
              subst ex_16
              refine va_lald hx hb hK hP 1 2 rfl rfl (i := (nI (m1 + i))) (vp_in_nI (n := m1 + i) (N := n) (by omega) (by omega)) dX8_compareRows_68 ?_
              refine lv_topl (fun x_17 ex_17 => ?_)
              have ex_17 : x_17 = v1 (m1 + i) := ex_17.trans (congrArg v1 (nI_clamp (n := m1 + i) (by omega)))
              subst ex_17
              refine lv_aload_n hx hb dX8_compareRows_69 rfl (lv_at hl 4 rfl) ?_
              refine va_get (D := (dC, dI)) (ci := 9) (v := .ref hU) (C := RX8) (T := TX8) (N := 4) hx hb hts (fun w h => List.mem_cons_of_mem _ (uG_X8 w h)) hown hK hP 3 rfl rfl 0 (by decide) (hts _ (List.mem_cons_of_mem _ kw_349)) (fun _ h9 => h9) rfl dX8_compareRows_70 ?_
              refine lv_iload_n hx hb dX8_compareRows_73 rfl (lv_at hl 5 rfl) ?_
              refine lv_iload hx hb dX8_compareRows_74 (lv_at hl 1 rfl) ?_
              refine lv_iadd hx hb dX8_compareRows_76 ?_
              refine lv_topi (fun x_18 ex_18 => ?_)
              have ex_18 : x_18 = nI (t1 + i) := ex_18.trans (nI_add t1 i)
              subst ex_18
              refine va_lald hx hb hK hP 4 2 rfl rfl (i := (nI (t1 + i))) (vp_in_nI (n := t1 + i) (N := n2) (by omega) (by omega)) dX8_compareRows_77 ?_
              refine lv_topl (fun x_19 ex_19 => ?_)
              have ex_19 : x_19 = v2 (t1 + i) := ex_19.trans (congrArg v2 (nI_clamp (n := t1 + i) (by omega)))
              subst ex_19
              have hPc := hP.sub (ws' := []) [] rfl
              have hDc := hD.sub (ws' := []) [] (by decide) rfl
              have hKc := hK.sub (tys' := [(cB, .byte), (cI, .int), (cJ, .long), (cZ, .boolean)]) [0, 1, 2, 3] rfl
              have hFc := va_free (wc := []) hD hS hA [] rfl
              refine va_calli (va_runS (As := [.long (v1 (m1 + i)), .long (v2 (t1 + i))]) (rest := []) ⟨hx, hb, hml, hown, hts⟩ (t_lcompare l dC dI H.size cB cI cJ cZ (v1 (m1 + i)) (v2 (t1 + i))) ⟨callB_of 2 hts (gd_all (in_I kc_J13_compare_74951)) rfl rfl rfl (hts _ (List.mem_cons_of_mem _ kw_207)) (hts _ (List.mem_cons_of_mem _ kw_1501)) (by decide +kernel) ⟨Nat.le_of_ble_eq_true rfl, Nat.le_of_ble_eq_true rfl⟩, hts _ (List.mem_cons_of_mem _ kw_1502)⟩ ⟨fun a U g mk q => by obtain ⟨q0, q1, qP, qK, qD⟩ := q; exact ⟨q0, q1, qP, va_K.moved (u := U) (U := U.calling g mk a) (Vm.Alike.refl U.vm) qK, qD⟩, fun U hU hW => ⟨rfl, by rw [hU], by rw [hU]; exact hPc, va_K.moved hW.alike hKc, hDc.weaken (fun _ _ _ _ => trivial)⟩⟩ rfl rfl hl.1 rfl (lv_room (Nat.le_of_ble_eq_true rfl)) dX8_compareRows_78 ⟨Nat.le_of_ble_eq_true rfl, Nat.le_of_ble_eq_true rfl⟩) hS (fun q _ h => hFc q h) hFc (fun r_20 u t_ H1 locs ht hvm hw hB hz1 hk1 hS => ?_)
              obtain ⟨hP1, hK1, hD1⟩ := hB
              rw [ht] at hP1
              have hK1 := va_K.moved hvm.symm hK1
              obtain ⟨hP, hD⟩ := va_join (wr := [(h0, .inr (9, [.ref hV, .ref hB, wo, wp])), (hV, .inl (cJ, n, .inr (.inl v1))), (hB, .inl (cB, n, .inl b1)), (h1, .inr (9, [.ref hU, .ref hE, xo, xp])), (hU, .inl (cJ, n2, .inr (.inl v2))), (hE, .inl (cB, n2, .inl b2))]) (w1 := []) hP hD [] [0, 1, 2, 3, 4, 5] rfl rfl (by decide) (by decide) hk1 hFc hP1 hD1
              have hK := (hK.sub (tys' := []) [] rfl).app hK1
              generalize H1 = H at hP hS ⊢
              have hP : va_P (dC, dI) vwCl [(h0, .inr (9, [.ref hV, .ref hB, wo, wp])), (hV, .inl (cJ, n, .inr (.inl v1))), (hB, .inl (cB, n, .inl b1)), (h1, .inr (9, [.ref hU, .ref hE, xo, xp])), (hU, .inl (cJ, n2, .inr (.inl v2))), (hE, .inl (cB, n2, .inl b2))] H := hP
              have hD : va_D A [(h0, .inr (9, [.ref hV, .ref hB, wo, wp])), (hV, .inl (cJ, n, .inr (.inl v1))), (hB, .inl (cB, n, .inl b1)), (h1, .inr (9, [.ref hU, .ref hE, xo, xp])), (hU, .inl (cJ, n2, .inr (.inl v2))), (hE, .inl (cB, n2, .inl b2))] := hD
              have hK : va_K (dC, dI) vwCl [(cB, .byte), (cI, .int), (cJ, .long), (cZ, .boolean)] s := hK
              have er_20 : r_20 = lcI (v1 (m1 + i)) (v2 (t1 + i)) := hw
              rw [er_20]
              refine lv_istore (lv' := [(7, .int (lcI (v1 (m1 + i)) (v2 (t1 + i)))), (6, .int (nI i)), (0, .ref h0), (1, .int (nI m1)), (2, .ref h1), (3, .int (nI t1)), (4, .int (nI w1)), (5, .int dn)]) hx hb dX8_compareRows_81 hl (by decide) rfl (fun ls hl => ?_)
              refine lv_iload hx hb dX8_compareRows_83 (lv_at hl 0 rfl) ?_
              refine lv_if_eq (tgt := 114) hx hb dX8_compareRows_85 (by decide) (fun c_21 => ?_) (fun c_21 => ?_)
              · skip
                refine lv_iinc (v := nI (i + 1)) (lv' := [(6, .int (nI (i + 1))), (7, .int (lcI (v1 (m1 + i)) (v2 (t1 + i)))), (0, .ref h0), (1, .int (nI m1)), (2, .ref h1), (3, .int (nI t1)), (4, .int (nI w1)), (5, .int dn)]) hx hb dX8_compareRows_114 hl (k := 1) rfl (nI_add i 1) (by decide) rfl (fun ls hl => ?_)
                refine lv_goto (tgt := 3) hx hb dX8_compareRows_117 (by decide) ?_
                exact ih_3 (i + 1) (by omega) (hin.trans (cmF_z (by omega) ((if_pos c_12).trans c_21))) (by omega) _ _ _ (hP.sub [0, 1, 2, 3, 4, 5] rfl) (hD.sub [0, 1, 2, 3, 4, 5] (by decide) rfl) hS (lv_sub hl [0, 2, 3, 4, 5, 6, 7] rfl)
              · skip
                refine lv_iload hx hb dX8_compareRows_88 (lv_at hl 1 rfl) ?_
                refine lv_bipush (v := 8) hx hb dX8_compareRows_90 (by decide) ?_
                refine lv_icmp_ge (tgt := 111) hx hb dX8_compareRows_92 (by decide) (fun c_22 => ?_) (fun c_22 => ?_)
                · skip
                  have c_22 : 8 ≤ i := (nI_leI (a := 8) (b := i) (by omega) (by omega)).mp c_22
                  refine lv_iload hx hb dX8_compareRows_111 (lv_at hl 0 rfl) ?_
                  have hP9 := hP.sub (ws' := [(h0, .inr (9, [.ref hV, .ref hB, wo, wp])), (hV, .inl (cJ, n, .inr (.inl v1))), (hB, .inl (cB, n, .inl b1)), (h1, .inr (9, [.ref hU, .ref hE, xo, xp])), (hU, .inl (cJ, n2, .inr (.inl v2))), (hE, .inl (cB, n2, .inl b2))]) [0, 1, 2, 3, 4, 5] rfl
                  have hD9 := hD.sub (ws' := [(h0, .inr (9, [.ref hV, .ref hB, wo, wp])), (hV, .inl (cJ, n, .inr (.inl v1))), (hB, .inl (cB, n, .inl b1)), (h1, .inr (9, [.ref hU, .ref hE, xo, xp])), (hU, .inl (cJ, n2, .inr (.inl v2))), (hE, .inl (cB, n2, .inl b2))]) [0, 1, 2, 3, 4, 5] (by decide) rfl
                  have hK9 := hK.sub (tys' := [(cB, .byte), (cI, .int), (cJ, .long), (cZ, .boolean)]) [0, 1, 2, 3] rfl
                  exact W.iret (v := (lcI (v1 (m1 + i)) (v2 (t1 + i)))) hx hb hr (fun t_ ht hW => ⟨⟨(lcI (v1 (m1 + i)) (v2 (t1 + i))), (), rfl, by rw [hin, cmF_n (by omega) (by rw [(show sgI (b1 (m1 + i)) (b2 (t1 + i)) (v1 (m1 + i)) (v2 (t1 + i)) = lcI (v1 (m1 + i)) (v2 (t1 + i)) from if_pos c_12)]; exact c_21), (show sgI (b1 (m1 + i)) (b2 (t1 + i)) (v1 (m1 + i)) (v2 (t1 + i)) = lcI (v1 (m1 + i)) (v2 (t1 + i)) from if_pos c_12)]; unfold dnI; rw [if_pos c_22], by rw [ht]; exact hP9, va_K.moved hW.alike hK9, hD9⟩, hS.F ht⟩) hS.2.2 dX8_compareRows_113
                · skip
                  have c_22 : ¬ (8 ≤ i) := fun h => c_22 ((nI_leI (a := 8) (b := i) (by omega) (by omega)).mpr h)
                  refine lv_iload hx hb dX8_compareRows_95 (lv_at hl 7 rfl) ?_
                  refine lv_iload hx hb dX8_compareRows_97 (lv_at hl 1 rfl) ?_
                  refine lv_ishr hx hb dX8_compareRows_99 ?_
                  refine lv_iconst (v := 1) hx hb dX8_compareRows_100 (by decide) ?_
                  refine lv_iand hx hb dX8_compareRows_101 ?_
                  refine lv_if_eq (tgt := 111) hx hb dX8_compareRows_102 (by decide) (fun c_23 => ?_) (fun c_23 => ?_)
                  · skip
                    refine lv_iload hx hb dX8_compareRows_111 (lv_at hl 0 rfl) ?_
                    have hP9 := hP.sub (ws' := [(h0, .inr (9, [.ref hV, .ref hB, wo, wp])), (hV, .inl (cJ, n, .inr (.inl v1))), (hB, .inl (cB, n, .inl b1)), (h1, .inr (9, [.ref hU, .ref hE, xo, xp])), (hU, .inl (cJ, n2, .inr (.inl v2))), (hE, .inl (cB, n2, .inl b2))]) [0, 1, 2, 3, 4, 5] rfl
                    have hD9 := hD.sub (ws' := [(h0, .inr (9, [.ref hV, .ref hB, wo, wp])), (hV, .inl (cJ, n, .inr (.inl v1))), (hB, .inl (cB, n, .inl b1)), (h1, .inr (9, [.ref hU, .ref hE, xo, xp])), (hU, .inl (cJ, n2, .inr (.inl v2))), (hE, .inl (cB, n2, .inl b2))]) [0, 1, 2, 3, 4, 5] (by decide) rfl
                    have hK9 := hK.sub (tys' := [(cB, .byte), (cI, .int), (cJ, .long), (cZ, .boolean)]) [0, 1, 2, 3] rfl
                    exact W.iret (v := (lcI (v1 (m1 + i)) (v2 (t1 + i)))) hx hb hr (fun t_ ht hW => ⟨⟨(lcI (v1 (m1 + i)) (v2 (t1 + i))), (), rfl, by rw [hin, cmF_n (by omega) (by rw [(show sgI (b1 (m1 + i)) (b2 (t1 + i)) (v1 (m1 + i)) (v2 (t1 + i)) = lcI (v1 (m1 + i)) (v2 (t1 + i)) from if_pos c_12)]; exact c_21), (show sgI (b1 (m1 + i)) (b2 (t1 + i)) (v1 (m1 + i)) (v2 (t1 + i)) = lcI (v1 (m1 + i)) (v2 (t1 + i)) from if_pos c_12)]; unfold dnI; rw [if_neg c_22, if_pos c_23], by rw [ht]; exact hP9, va_K.moved hW.alike hK9, hD9⟩, hS.F ht⟩) hS.2.2 dX8_compareRows_113
                  · skip
                    refine lv_iload hx hb dX8_compareRows_105 (lv_at hl 0 rfl) ?_
                    refine lv_ineg hx hb dX8_compareRows_107 ?_
                    refine lv_goto (tgt := 113) hx hb dX8_compareRows_108 (by decide) ?_
                    have hP9 := hP.sub (ws' := [(h0, .inr (9, [.ref hV, .ref hB, wo, wp])), (hV, .inl (cJ, n, .inr (.inl v1))), (hB, .inl (cB, n, .inl b1)), (h1, .inr (9, [.ref hU, .ref hE, xo, xp])), (hU, .inl (cJ, n2, .inr (.inl v2))), (hE, .inl (cB, n2, .inl b2))]) [0, 1, 2, 3, 4, 5] rfl
                    have hD9 := hD.sub (ws' := [(h0, .inr (9, [.ref hV, .ref hB, wo, wp])), (hV, .inl (cJ, n, .inr (.inl v1))), (hB, .inl (cB, n, .inl b1)), (h1, .inr (9, [.ref hU, .ref hE, xo, xp])), (hU, .inl (cJ, n2, .inr (.inl v2))), (hE, .inl (cB, n2, .inl b2))]) [0, 1, 2, 3, 4, 5] (by decide) rfl
                    have hK9 := hK.sub (tys' := [(cB, .byte), (cI, .int), (cJ, .long), (cZ, .boolean)]) [0, 1, 2, 3] rfl
                    exact W.iret (v := (-(lcI (v1 (m1 + i)) (v2 (t1 + i))))) hx hb hr (fun t_ ht hW => ⟨⟨(-(lcI (v1 (m1 + i)) (v2 (t1 + i)))), (), rfl, by rw [hin, cmF_n (by omega) (by rw [(show sgI (b1 (m1 + i)) (b2 (t1 + i)) (v1 (m1 + i)) (v2 (t1 + i)) = lcI (v1 (m1 + i)) (v2 (t1 + i)) from if_pos c_12)]; exact c_21), (show sgI (b1 (m1 + i)) (b2 (t1 + i)) (v1 (m1 + i)) (v2 (t1 + i)) = lcI (v1 (m1 + i)) (v2 (t1 + i)) from if_pos c_12)]; unfold dnI; rw [if_neg c_22, if_neg c_23], by rw [ht]; exact hP9, va_K.moved hW.alike hK9, hD9⟩, hS.F ht⟩) hS.2.2 dX8_compareRows_113
          · skip
            exact absurd c_7 (by decide)
  exact lp_3 _ 0 (Nat.zero_le _) rfl (Nat.lt_succ_self _) _ _ _ (hP.sub [0, 1, 2, 3, 4, 5] rfl) (hD.sub [0, 1, 2, 3, 4, 5] (by decide) rfl) hS (lv_sub hl [0, 1, 2, 3, 4, 5, 6] rfl)
abbrev cs_t_compareRows_s (cB cI cJ cZ : ClassId) (h0 hV hB n : Nat) (v1 : Nat → Int64) (b1 : Nat → Int32) (wo wp : Value) (m1 t1 w1 : Nat) (dn : Int32) : va_W := [(h0, .inr (9, [.ref hV, .ref hB, wo, wp])), (hV, .inl (cJ, n, .inr (.inl v1))), (hB, .inl (cB, n, .inl b1))]
abbrev pc_t_compareRows_s (dC : Nat → ClassId) (dI : Nat → Nat → Nat) (sz : Nat) (cB cI cJ cZ : ClassId) (h0 hV hB n : Nat) (v1 : Nat → Int64) (b1 : Nat → Int32) (wo wp : Value) (m1 t1 w1 : Nat) (dn : Int32) : Array Value → State → Prop := va_Pc [.ref h0, .int (nI m1), .ref h0, .int (nI t1), .int (nI w1), .int dn] (fun U => U.heap.size = sz ∧ va_P (dC, dI) vwCl [(h0, .inr (9, [.ref hV, .ref hB, wo, wp])), (hV, .inl (cJ, n, .inr (.inl v1))), (hB, .inl (cB, n, .inl b1))] U.heap ∧ va_K (dC, dI) vwCl [(cB, .byte), (cI, .int), (cJ, .long), (cZ, .boolean)] U ∧ va_D (fun _ => True) [(h0, .inr (9, [.ref hV, .ref hB, wo, wp])), (hV, .inl (cJ, n, .inr (.inl v1))), (hB, .inl (cB, n, .inl b1))])
abbrev qc_t_compareRows_s (dC : Nat → ClassId) (dI : Nat → Nat → Nat) (cB cI cJ cZ : ClassId) (h0 hV hB n : Nat) (v1 : Nat → Int64) (b1 : Nat → Int32) (wo wp : Value) (m1 t1 w1 : Nat) (dn : Int32) (A : Nat → Prop) : Array Value → State → Outcome → State → Prop := va_Qi (fun (r : Int32) (u : Unit) => match u with | _ => r = cmF v1 b1 m1 v1 b1 t1 dn w1 0) (fun (u : Unit) t_ => match u with | _ => va_P (dC, dI) vwCl [(h0, .inr (9, [.ref hV, .ref hB, wo, wp])), (hV, .inl (cJ, n, .inr (.inl v1))), (hB, .inl (cB, n, .inl b1))] t_.heap ∧ va_K (dC, dI) vwCl [(cB, .byte), (cI, .int), (cJ, .long), (cZ, .boolean)] t_ ∧ va_D A [(h0, .inr (9, [.ref hV, .ref hB, wo, wp])), (hV, .inl (cJ, n, .inr (.inl v1))), (hB, .inl (cB, n, .inl b1))]) A
set_option maxHeartbeats 4000000 in
set_option maxRecDepth 100000 in
theorem t_compareRows_s (l : Launch) (dC : Nat → ClassId) (dI : Nat → Nat → Nat) (sz : Nat) (cB cI cJ cZ : ClassId) (h0 hV hB n : Nat) (v1 : Nat → Int64) (b1 : Nat → Int32) (wo wp : Value) (m1 t1 w1 : Nat) (dn : Int32) (hn : n < 500000) (hm : m1 + w1 ≤ n) (ht : t1 + w1 ≤ n) : Met l yX8_compareRows (wsOf yX8_compareRows cX8_compareRows 8 (some .int)) ({ frames := 1, cells := 0, slots := 0, locals := 60 }) (pc_t_compareRows_s dC dI sz cB cI cJ cZ h0 hV hB n v1 b1 wo wp m1 t1 w1 dn) (qc_t_compareRows_s dC dI cB cI cJ cZ h0 hV hB n v1 b1 wo wp m1 t1 w1 dn (va_A (cs_t_compareRows_s cB cI cJ cZ h0 hV hB n v1 b1 wo wp m1 t1 w1 dn) sz)) 0 0 (va_A (cs_t_compareRows_s cB cI cJ cZ h0 hV hB n v1 b1 wo wp m1 t1 w1 dn) sz) := by
  refine Met.ofW (cc := cX8_compareRows) (maxL := 8) (ret := (some .int)) (by decide) rfl ?_
  intro p e s m args below meth c s₁ B hml hv
  obtain ⟨rfl, hsz, hP, hK, hD0⟩ := hv
  have hx := B.exec
  have hb := B.bytes
  have hr := B.returns
  have hts := atoms_spec (ws := (wsOf yX8_compareRows cX8_compareRows 8 (some .int))) B.pre
  have hown : s.vm.findClass RX8 = some m.cls := findClass_of_methodNamed B.named
  have hlocks := B.notSynchronized
  subst hsz
  have hD := hD0.self (sz := s.heap.size)
  generalize hAe : va_A (cs_t_compareRows_s cB cI cJ cZ h0 hV hB n v1 b1 wo wp m1 t1 w1 dn) s.heap.size = A at hD ⊢
  have hA : ∀ q : Nat, s.heap.size ≤ q → A q := fun q h => by rw [← hAe]; exact Or.inr h
  have hS : va_S A s.heap s.heap [] := va_S.rf
  have hP : va_P (dC, dI) vwCl [(h0, .inr (9, [.ref hV, .ref hB, wo, wp])), (hV, .inl (cJ, n, .inr (.inl v1))), (hB, .inl (cB, n, .inl b1))] s.heap := hP
  have hl := lv_entry ([.ref h0, .int (nI m1), .ref h0, .int (nI t1), .int (nI w1), .int dn]) (n := 8) (Nat.le_of_ble_eq_true rfl)
  rw [lg_entry_eq]
  generalize (lg_sl ([.ref h0, .int (nI m1), .ref h0, .int (nI t1), .int (nI w1), .int dn]) ++ List.replicate (8 - (lg_sl ([.ref h0, .int (nI m1), .ref h0, .int (nI t1), .int (nI w1), .int dn])).length) Slot.unset).toArray = ls at hl ⊢
  have hl : lv_has ls 8 [(0, .ref h0), (1, .int (nI m1)), (2, .ref h0), (3, .int (nI t1)), (4, .int (nI w1)), (5, .int dn)] := hl
  refine lv_iconst (v := 0) hx hb dX8_compareRows_0 (by decide) ?_
  refine lv_istore (lv' := [(6, .int 0), (0, .ref h0), (1, .int (nI m1)), (2, .ref h0), (3, .int (nI t1)), (4, .int (nI w1)), (5, .int dn)]) hx hb dX8_compareRows_1 hl (by decide) rfl (fun ls hl => ?_)
  have lp_3 : ∀ (n_ : Nat) (i : Nat), i ≤ w1 → cmF v1 b1 m1 v1 b1 t1 dn w1 0 = cmF v1 b1 m1 v1 b1 t1 dn (w1 - i) i → w1 - i < n_ → ∀ (H : Heap) (locs : List Loc) (ls : Array Slot), va_P (dC, dI) vwCl [(h0, .inr (9, [.ref hV, .ref hB, wo, wp])), (hV, .inl (cJ, n, .inr (.inl v1))), (hB, .inl (cB, n, .inl b1))] H → va_D A [(h0, .inr (9, [.ref hV, .ref hB, wo, wp])), (hV, .inl (cJ, n, .inr (.inl v1))), (hB, .inl (cB, n, .inl b1))] → va_S A s.heap H locs → lv_has ls 8 [(6, .int (nI i)), (0, .ref h0), (1, .int (nI m1)), (2, .ref h0), (3, .int (nI t1)), (4, .int (nI w1)), (5, .int dn)] → W p l e (headSpec (wsOf yX8_compareRows cX8_compareRows 8 (some .int)) ({ frames := 1, cells := 0, slots := 0, locals := 60 })).room s m ([.ref h0, .int (nI m1), .ref h0, .int (nI t1), .int (nI w1), .int dn] : List Value).toArray below meth c H locs 0 0 (MQ below (qc_t_compareRows_s dC dI cB cI cJ cZ h0 hV hB n v1 b1 wo wp m1 t1 w1 dn A) ([.ref h0, .int (nI m1), .ref h0, .int (nI t1), .int (nI w1), .int dn] : List Value).toArray s 0 0 A) (F0 m 3 ls []) := by
    intro n_
    induction n_ with
    | zero => intro i hi hin hm; exact absurd hm (Nat.not_lt_zero _)
    | succ n_ ih_3 =>
      intro i hi hin hm H locs ls hP hD hS hl
      refine lv_iload hx hb dX8_compareRows_3 (lv_at hl 0 rfl) ?_
      refine lv_iload hx hb dX8_compareRows_5 (lv_at hl 5 rfl) ?_
      refine lv_icmp_ge (tgt := 120) hx hb dX8_compareRows_7 (by decide) (fun c_1 => ?_) (fun c_1 => ?_)
      · skip
        have c_1 : w1 ≤ i := (nI_leI (a := w1) (b := i) (by omega) (by omega)).mp c_1
        refine lv_iconst (v := 0) hx hb dX8_compareRows_120 (by decide) ?_
        have hP9 := hP.sub (ws' := [(h0, .inr (9, [.ref hV, .ref hB, wo, wp])), (hV, .inl (cJ, n, .inr (.inl v1))), (hB, .inl (cB, n, .inl b1))]) [0, 1, 2] rfl
        have hD9 := hD.sub (ws' := [(h0, .inr (9, [.ref hV, .ref hB, wo, wp])), (hV, .inl (cJ, n, .inr (.inl v1))), (hB, .inl (cB, n, .inl b1))]) [0, 1, 2] (by decide) rfl
        have hK9 := hK.sub (tys' := [(cB, .byte), (cI, .int), (cJ, .long), (cZ, .boolean)]) [0, 1, 2, 3] rfl
        exact W.iret (v := 0) hx hb hr (fun t_ ht hW => ⟨⟨0, (), rfl, (by rw [hin, show w1 - i = 0 by omega]; rfl), by rw [ht]; exact hP9, va_K.moved hW.alike hK9, hD9⟩, hS.F ht⟩) hS.2.2 dX8_compareRows_121
      · skip
        have c_1 : ¬ (w1 ≤ i) := fun h => c_1 ((nI_leI (a := w1) (b := i) (by omega) (by omega)).mpr h)
        refine lv_aload_n hx hb dX8_compareRows_10 rfl (lv_at hl 1 rfl) ?_
        refine lv_iload_n hx hb dX8_compareRows_11 rfl (lv_at hl 2 rfl) ?_
        refine lv_iload hx hb dX8_compareRows_12 (lv_at hl 0 rfl) ?_
        refine lv_iadd hx hb dX8_compareRows_14 ?_
        refine lv_topi (fun x_2 ex_2 => ?_)
        have ex_2 : x_2 = nI (m1 + i) := ex_2.trans (nI_add m1 i)
        subst ex_2
        have hPc := hP.sub (ws' := [(h0, .inr (9, [.ref hV, .ref hB, wo, wp])), (hV, .inl (cJ, n, .inr (.inl v1))), (hB, .inl (cB, n, .inl b1))]) [0, 1, 2] rfl
        have hDc := hD.sub (ws' := [(h0, .inr (9, [.ref hV, .ref hB, wo, wp])), (hV, .inl (cJ, n, .inr (.inl v1))), (hB, .inl (cB, n, .inl b1))]) [0, 1, 2] (by decide) rfl
        have hKc := hK.sub (tys' := [(cB, .byte), (cI, .int), (cJ, .long), (cZ, .boolean)]) [0, 1, 2, 3] rfl
        have hFc := va_free (wc := [(h0, .inr (9, [.ref hV, .ref hB, wo, wp])), (hV, .inl (cJ, n, .inr (.inl v1))), (hB, .inl (cB, n, .inl b1))]) hD hS hA [0, 1, 2] rfl
        refine va_calli (va_runV (As := [.int (nI (m1 + i))]) (rest := []) ⟨hx, hb, hml, hown, hts⟩ (t_X8_holds l dC dI H.size cB cI cJ cZ h0 hV hB n v1 b1 wo wp (m1 + i) (by omega) (by omega)) (cwV 1 hts (gd_all (in_V kw_1360 kw_1362 kw_67 kw_188 kc_X8_holds)) rfl rfl rfl (by decide +kernel) ⟨Nat.le_of_ble_eq_true rfl, Nat.le_of_ble_eq_true rfl⟩) ⟨fun a U g mk q => by obtain ⟨q0, q1, qP, qK, qD⟩ := q; exact ⟨q0, q1, qP, va_K.moved (u := U) (U := U.calling g mk a) (Vm.Alike.refl U.vm) qK, qD⟩, va_recv hKc hPc (ci := 9) (q0 := 0) rfl rfl, fun U hU hW => ⟨rfl, by rw [hU], by rw [hU]; exact hPc, va_K.moved hW.alike hKc, hDc.weaken (fun _ _ _ _ => trivial)⟩⟩ rfl rfl hl.1 rfl (lv_room (Nat.le_of_ble_eq_true rfl)) dX8_compareRows_15 ⟨Nat.le_of_ble_eq_true rfl, Nat.le_of_ble_eq_true rfl⟩) hS (fun q _ h => hFc q h) hFc (fun r_3 u t_ H1 locs ht hvm hw hB hz1 hk1 hS => ?_)
        obtain ⟨hP1, hK1, hD1⟩ := hB
        rw [ht] at hP1
        have hK1 := va_K.moved hvm.symm hK1
        obtain ⟨hP, hD⟩ := va_join (wr := []) (w1 := [(h0, .inr (9, [.ref hV, .ref hB, wo, wp])), (hV, .inl (cJ, n, .inr (.inl v1))), (hB, .inl (cB, n, .inl b1))]) hP hD [0, 1, 2] [] rfl rfl (by decide) (by decide) hk1 hFc hP1 hD1
        have hK := (hK.sub (tys' := []) [] rfl).app hK1
        generalize H1 = H at hP hS ⊢
        have hP : va_P (dC, dI) vwCl [(h0, .inr (9, [.ref hV, .ref hB, wo, wp])), (hV, .inl (cJ, n, .inr (.inl v1))), (hB, .inl (cB, n, .inl b1))] H := hP
        have hD : va_D A [(h0, .inr (9, [.ref hV, .ref hB, wo, wp])), (hV, .inl (cJ, n, .inr (.inl v1))), (hB, .inl (cB, n, .inl b1))] := hD
        have hK : va_K (dC, dI) vwCl [(cB, .byte), (cI, .int), (cJ, .long), (cZ, .boolean)] s := hK
        have er_3 : r_3 = 1 := hw
        rw [er_3]
        refine lv_if_eq (tgt := 32) hx hb dX8_compareRows_18 (by decide) (fun c_4 => ?_) (fun c_4 => ?_)
        · skip
          exact absurd c_4 (by decide)
        · skip
          refine lv_aload_n hx hb dX8_compareRows_21 rfl (lv_at hl 3 rfl) ?_
          refine lv_iload_n hx hb dX8_compareRows_22 rfl (lv_at hl 4 rfl) ?_
          refine lv_iload hx hb dX8_compareRows_23 (lv_at hl 0 rfl) ?_
          refine lv_iadd hx hb dX8_compareRows_25 ?_
          refine lv_topi (fun x_5 ex_5 => ?_)
          have ex_5 : x_5 = nI (t1 + i) := ex_5.trans (nI_add t1 i)
          subst ex_5
          have hPc := hP.sub (ws' := [(h0, .inr (9, [.ref hV, .ref hB, wo, wp])), (hV, .inl (cJ, n, .inr (.inl v1))), (hB, .inl (cB, n, .inl b1))]) [0, 1, 2] rfl
          have hDc := hD.sub (ws' := [(h0, .inr (9, [.ref hV, .ref hB, wo, wp])), (hV, .inl (cJ, n, .inr (.inl v1))), (hB, .inl (cB, n, .inl b1))]) [0, 1, 2] (by decide) rfl
          have hKc := hK.sub (tys' := [(cB, .byte), (cI, .int), (cJ, .long), (cZ, .boolean)]) [0, 1, 2, 3] rfl
          have hFc := va_free (wc := [(h0, .inr (9, [.ref hV, .ref hB, wo, wp])), (hV, .inl (cJ, n, .inr (.inl v1))), (hB, .inl (cB, n, .inl b1))]) hD hS hA [0, 1, 2] rfl
          refine va_calli (va_runV (As := [.int (nI (t1 + i))]) (rest := []) ⟨hx, hb, hml, hown, hts⟩ (t_X8_holds l dC dI H.size cB cI cJ cZ h0 hV hB n v1 b1 wo wp (t1 + i) (by omega) (by omega)) (cwV 1 hts (gd_all (in_V kw_1360 kw_1362 kw_67 kw_188 kc_X8_holds)) rfl rfl rfl (by decide +kernel) ⟨Nat.le_of_ble_eq_true rfl, Nat.le_of_ble_eq_true rfl⟩) ⟨fun a U g mk q => by obtain ⟨q0, q1, qP, qK, qD⟩ := q; exact ⟨q0, q1, qP, va_K.moved (u := U) (U := U.calling g mk a) (Vm.Alike.refl U.vm) qK, qD⟩, va_recv hKc hPc (ci := 9) (q0 := 0) rfl rfl, fun U hU hW => ⟨rfl, by rw [hU], by rw [hU]; exact hPc, va_K.moved hW.alike hKc, hDc.weaken (fun _ _ _ _ => trivial)⟩⟩ rfl rfl hl.1 rfl (lv_room (Nat.le_of_ble_eq_true rfl)) dX8_compareRows_26 ⟨Nat.le_of_ble_eq_true rfl, Nat.le_of_ble_eq_true rfl⟩) hS (fun q _ h => hFc q h) hFc (fun r_6 u t_ H1 locs ht hvm hw hB hz1 hk1 hS => ?_)
          obtain ⟨hP1, hK1, hD1⟩ := hB
          rw [ht] at hP1
          have hK1 := va_K.moved hvm.symm hK1
          obtain ⟨hP, hD⟩ := va_join (wr := []) (w1 := [(h0, .inr (9, [.ref hV, .ref hB, wo, wp])), (hV, .inl (cJ, n, .inr (.inl v1))), (hB, .inl (cB, n, .inl b1))]) hP hD [0, 1, 2] [] rfl rfl (by decide) (by decide) hk1 hFc hP1 hD1
          have hK := (hK.sub (tys' := []) [] rfl).app hK1
          generalize H1 = H at hP hS ⊢
          have hP : va_P (dC, dI) vwCl [(h0, .inr (9, [.ref hV, .ref hB, wo, wp])), (hV, .inl (cJ, n, .inr (.inl v1))), (hB, .inl (cB, n, .inl b1))] H := hP
          have hD : va_D A [(h0, .inr (9, [.ref hV, .ref hB, wo, wp])), (hV, .inl (cJ, n, .inr (.inl v1))), (hB, .inl (cB, n, .inl b1))] := hD
          have hK : va_K (dC, dI) vwCl [(cB, .byte), (cI, .int), (cJ, .long), (cZ, .boolean)] s := hK
          have er_6 : r_6 = 1 := hw
          rw [er_6]
          refine lv_if_ne (tgt := 34) hx hb dX8_compareRows_29 (by decide) (fun c_7 => ?_) (fun c_7 => ?_)
          · skip
            refine lv_aload_n hx hb dX8_compareRows_34 rfl (lv_at hl 3 rfl) ?_
            refine va_get (D := (dC, dI)) (ci := 9) (v := .ref hB) (C := RX8) (T := TX8) (N := 4) hx hb hts (fun w h => List.mem_cons_of_mem _ (uG_X8 w h)) hown hK hP 0 rfl rfl 1 (by decide) (hts _ (List.mem_cons_of_mem _ kw_350)) (fun _ h9 => h9) rfl dX8_compareRows_35 ?_
            refine lv_iload_n hx hb dX8_compareRows_38 rfl (lv_at hl 4 rfl) ?_
            refine lv_iload hx hb dX8_compareRows_39 (lv_at hl 0 rfl) ?_
            refine lv_iadd hx hb dX8_compareRows_41 ?_
            refine lv_topi (fun x_8 ex_8 => ?_)
            have ex_8 : x_8 = nI (t1 + i) := ex_8.trans (nI_add t1 i)
            subst ex_8
            refine va_bald hx hb hK hP 2 0 rfl rfl (i := (nI (t1 + i))) (vp_in_nI (n := t1 + i) (N := n) (by omega) (by omega)) dX8_compareRows_42 ?_
            refine lv_topi (fun x_9 ex_9 => ?_)
            have ex_9 : x_9 = b1 (t1 + i) := ex_9.trans (congrArg b1 (nI_clamp (n := t1 + i) (by omega)))
            subst ex_9
            refine lv_aload_n hx hb dX8_compareRows_43 rfl (lv_at hl 1 rfl) ?_
            refine va_get (D := (dC, dI)) (ci := 9) (v := .ref hB) (C := RX8) (T := TX8) (N := 4) hx hb hts (fun w h => List.mem_cons_of_mem _ (uG_X8 w h)) hown hK hP 0 rfl rfl 1 (by decide) (hts _ (List.mem_cons_of_mem _ kw_350)) (fun _ h9 => h9) rfl dX8_compareRows_44 ?_
            refine lv_iload_n hx hb dX8_compareRows_47 rfl (lv_at hl 2 rfl) ?_
            refine lv_iload hx hb dX8_compareRows_48 (lv_at hl 0 rfl) ?_
            refine lv_iadd hx hb dX8_compareRows_50 ?_
            refine lv_topi (fun x_10 ex_10 => ?_)
            have ex_10 : x_10 = nI (m1 + i) := ex_10.trans (nI_add m1 i)
            subst ex_10
            refine va_bald hx hb hK hP 2 0 rfl rfl (i := (nI (m1 + i))) (vp_in_nI (n := m1 + i) (N := n) (by omega) (by omega)) dX8_compareRows_51 ?_
            refine lv_topi (fun x_11 ex_11 => ?_)
            have ex_11 : x_11 = b1 (m1 + i) := ex_11.trans (congrArg b1 (nI_clamp (n := m1 + i) (by omega)))
            subst ex_11
            refine lv_isub hx hb dX8_compareRows_52 ?_
            refine lv_istore (lv' := [(7, .int ((b1 (t1 + i)) - (b1 (m1 + i)))), (6, .int (nI i)), (0, .ref h0), (1, .int (nI m1)), (2, .ref h0), (3, .int (nI t1)), (4, .int (nI w1)), (5, .int dn)]) hx hb dX8_compareRows_53 hl (by decide) rfl (fun ls hl => ?_)
            refine lv_iload hx hb dX8_compareRows_55 (lv_at hl 0 rfl) ?_
            refine lv_if_ne (tgt := 83) hx hb dX8_compareRows_57 (by decide) (fun c_12 => ?_) (fun c_12 => ?_)
            · skip
              refine lv_iload hx hb dX8_compareRows_83 (lv_at hl 0 rfl) ?_
              refine lv_if_eq (tgt := 114) hx hb dX8_compareRows_85 (by decide) (fun c_13 => ?_) (fun c_13 => ?_)
              · skip
                exact absurd c_13 c_12
              · skip
                refine lv_iload hx hb dX8_compareRows_88 (lv_at hl 1 rfl) ?_
                refine lv_bipush (v := 8) hx hb dX8_compareRows_90 (by decide) ?_
                refine lv_icmp_ge (tgt := 111) hx hb dX8_compareRows_92 (by decide) (fun c_14 => ?_) (fun c_14 => ?_)
                · skip
                  have c_14 : 8 ≤ i := (nI_leI (a := 8) (b := i) (by omega) (by omega)).mp c_14
                  refine lv_iload hx hb dX8_compareRows_111 (lv_at hl 0 rfl) ?_
                  have hP9 := hP.sub (ws' := [(h0, .inr (9, [.ref hV, .ref hB, wo, wp])), (hV, .inl (cJ, n, .inr (.inl v1))), (hB, .inl (cB, n, .inl b1))]) [0, 1, 2] rfl
                  have hD9 := hD.sub (ws' := [(h0, .inr (9, [.ref hV, .ref hB, wo, wp])), (hV, .inl (cJ, n, .inr (.inl v1))), (hB, .inl (cB, n, .inl b1))]) [0, 1, 2] (by decide) rfl
                  have hK9 := hK.sub (tys' := [(cB, .byte), (cI, .int), (cJ, .long), (cZ, .boolean)]) [0, 1, 2, 3] rfl
                  exact W.iret (v := ((b1 (t1 + i)) - (b1 (m1 + i)))) hx hb hr (fun t_ ht hW => ⟨⟨((b1 (t1 + i)) - (b1 (m1 + i))), (), rfl, by rw [hin, cmF_n (by omega) (by rw [(show sgI (b1 (m1 + i)) (b1 (t1 + i)) (v1 (m1 + i)) (v1 (t1 + i)) = (b1 (t1 + i)) - (b1 (m1 + i)) from if_neg c_12)]; exact c_12), (show sgI (b1 (m1 + i)) (b1 (t1 + i)) (v1 (m1 + i)) (v1 (t1 + i)) = (b1 (t1 + i)) - (b1 (m1 + i)) from if_neg c_12)]; unfold dnI; rw [if_pos c_14], by rw [ht]; exact hP9, va_K.moved hW.alike hK9, hD9⟩, hS.F ht⟩) hS.2.2 dX8_compareRows_113
                · skip
                  have c_14 : ¬ (8 ≤ i) := fun h => c_14 ((nI_leI (a := 8) (b := i) (by omega) (by omega)).mpr h)
                  refine lv_iload hx hb dX8_compareRows_95 (lv_at hl 7 rfl) ?_
                  refine lv_iload hx hb dX8_compareRows_97 (lv_at hl 1 rfl) ?_
                  refine lv_ishr hx hb dX8_compareRows_99 ?_
                  refine lv_iconst (v := 1) hx hb dX8_compareRows_100 (by decide) ?_
                  refine lv_iand hx hb dX8_compareRows_101 ?_
                  refine lv_if_eq (tgt := 111) hx hb dX8_compareRows_102 (by decide) (fun c_15 => ?_) (fun c_15 => ?_)
                  · skip
                    refine lv_iload hx hb dX8_compareRows_111 (lv_at hl 0 rfl) ?_
                    have hP9 := hP.sub (ws' := [(h0, .inr (9, [.ref hV, .ref hB, wo, wp])), (hV, .inl (cJ, n, .inr (.inl v1))), (hB, .inl (cB, n, .inl b1))]) [0, 1, 2] rfl
                    have hD9 := hD.sub (ws' := [(h0, .inr (9, [.ref hV, .ref hB, wo, wp])), (hV, .inl (cJ, n, .inr (.inl v1))), (hB, .inl (cB, n, .inl b1))]) [0, 1, 2] (by decide) rfl
                    have hK9 := hK.sub (tys' := [(cB, .byte), (cI, .int), (cJ, .long), (cZ, .boolean)]) [0, 1, 2, 3] rfl
                    exact W.iret (v := ((b1 (t1 + i)) - (b1 (m1 + i)))) hx hb hr (fun t_ ht hW => ⟨⟨((b1 (t1 + i)) - (b1 (m1 + i))), (), rfl, by rw [hin, cmF_n (by omega) (by rw [(show sgI (b1 (m1 + i)) (b1 (t1 + i)) (v1 (m1 + i)) (v1 (t1 + i)) = (b1 (t1 + i)) - (b1 (m1 + i)) from if_neg c_12)]; exact c_12), (show sgI (b1 (m1 + i)) (b1 (t1 + i)) (v1 (m1 + i)) (v1 (t1 + i)) = (b1 (t1 + i)) - (b1 (m1 + i)) from if_neg c_12)]; unfold dnI; rw [if_neg c_14, if_pos c_15], by rw [ht]; exact hP9, va_K.moved hW.alike hK9, hD9⟩, hS.F ht⟩) hS.2.2 dX8_compareRows_113
                  · skip
                    refine lv_iload hx hb dX8_compareRows_105 (lv_at hl 0 rfl) ?_
                    refine lv_ineg hx hb dX8_compareRows_107 ?_
                    refine lv_goto (tgt := 113) hx hb dX8_compareRows_108 (by decide) ?_
                    have hP9 := hP.sub (ws' := [(h0, .inr (9, [.ref hV, .ref hB, wo, wp])), (hV, .inl (cJ, n, .inr (.inl v1))), (hB, .inl (cB, n, .inl b1))]) [0, 1, 2] rfl
                    have hD9 := hD.sub (ws' := [(h0, .inr (9, [.ref hV, .ref hB, wo, wp])), (hV, .inl (cJ, n, .inr (.inl v1))), (hB, .inl (cB, n, .inl b1))]) [0, 1, 2] (by decide) rfl
                    have hK9 := hK.sub (tys' := [(cB, .byte), (cI, .int), (cJ, .long), (cZ, .boolean)]) [0, 1, 2, 3] rfl
                    exact W.iret (v := (-((b1 (t1 + i)) - (b1 (m1 + i))))) hx hb hr (fun t_ ht hW => ⟨⟨(-((b1 (t1 + i)) - (b1 (m1 + i)))), (), rfl, by rw [hin, cmF_n (by omega) (by rw [(show sgI (b1 (m1 + i)) (b1 (t1 + i)) (v1 (m1 + i)) (v1 (t1 + i)) = (b1 (t1 + i)) - (b1 (m1 + i)) from if_neg c_12)]; exact c_12), (show sgI (b1 (m1 + i)) (b1 (t1 + i)) (v1 (m1 + i)) (v1 (t1 + i)) = (b1 (t1 + i)) - (b1 (m1 + i)) from if_neg c_12)]; unfold dnI; rw [if_neg c_14, if_neg c_15], by rw [ht]; exact hP9, va_K.moved hW.alike hK9, hD9⟩, hS.F ht⟩) hS.2.2 dX8_compareRows_113
            · skip
              refine lv_aload_n hx hb dX8_compareRows_60 rfl (lv_at hl 2 rfl) ?_
              refine va_get (D := (dC, dI)) (ci := 9) (v := .ref hV) (C := RX8) (T := TX8) (N := 4) hx hb hts (fun w h => List.mem_cons_of_mem _ (uG_X8 w h)) hown hK hP 0 rfl rfl 0 (by decide) (hts _ (List.mem_cons_of_mem _ kw_349)) (fun _ h9 => h9) rfl dX8_compareRows_61 ?_
              refine lv_iload_n hx hb dX8_compareRows_64 rfl (lv_at hl 3 rfl) ?_
              refine lv_iload hx hb dX8_compareRows_65 (lv_at hl 1 rfl) ?_
              refine lv_iadd hx hb dX8_compareRows_67 ?_
              refine lv_topi (fun x_16 ex_16 => ?_)
              have ex_16 : x_16 = nI (m1 + i) := ex_16.trans (nI_add m1 i)
              subst ex_16
              refine va_lald hx hb hK hP 1 2 rfl rfl (i := (nI (m1 + i))) (vp_in_nI (n := m1 + i) (N := n) (by omega) (by omega)) dX8_compareRows_68 ?_
              refine lv_topl (fun x_17 ex_17 => ?_)
              have ex_17 : x_17 = v1 (m1 + i) := ex_17.trans (congrArg v1 (nI_clamp (n := m1 + i) (by omega)))
              subst ex_17
              refine lv_aload_n hx hb dX8_compareRows_69 rfl (lv_at hl 4 rfl) ?_
              refine va_get (D := (dC, dI)) (ci := 9) (v := .ref hV) (C := RX8) (T := TX8) (N := 4) hx hb hts (fun w h => List.mem_cons_of_mem _ (uG_X8 w h)) hown hK hP 0 rfl rfl 0 (by decide) (hts _ (List.mem_cons_of_mem _ kw_349)) (fun _ h9 => h9) rfl dX8_compareRows_70 ?_
              refine lv_iload_n hx hb dX8_compareRows_73 rfl (lv_at hl 5 rfl) ?_
              refine lv_iload hx hb dX8_compareRows_74 (lv_at hl 1 rfl) ?_
              refine lv_iadd hx hb dX8_compareRows_76 ?_
              refine lv_topi (fun x_18 ex_18 => ?_)
              have ex_18 : x_18 = nI (t1 + i) := ex_18.trans (nI_add t1 i)
              subst ex_18
              refine va_lald hx hb hK hP 1 2 rfl rfl (i := (nI (t1 + i))) (vp_in_nI (n := t1 + i) (N := n) (by omega) (by omega)) dX8_compareRows_77 ?_
              refine lv_topl (fun x_19 ex_19 => ?_)
              have ex_19 : x_19 = v1 (t1 + i) := ex_19.trans (congrArg v1 (nI_clamp (n := t1 + i) (by omega)))
              subst ex_19
              have hPc := hP.sub (ws' := []) [] rfl
              have hDc := hD.sub (ws' := []) [] (by decide) rfl
              have hKc := hK.sub (tys' := [(cB, .byte), (cI, .int), (cJ, .long), (cZ, .boolean)]) [0, 1, 2, 3] rfl
              have hFc := va_free (wc := []) hD hS hA [] rfl
              refine va_calli (va_runS (As := [.long (v1 (m1 + i)), .long (v1 (t1 + i))]) (rest := []) ⟨hx, hb, hml, hown, hts⟩ (t_lcompare l dC dI H.size cB cI cJ cZ (v1 (m1 + i)) (v1 (t1 + i))) ⟨callB_of 2 hts (gd_all (in_I kc_J13_compare_74951)) rfl rfl rfl (hts _ (List.mem_cons_of_mem _ kw_207)) (hts _ (List.mem_cons_of_mem _ kw_1501)) (by decide +kernel) ⟨Nat.le_of_ble_eq_true rfl, Nat.le_of_ble_eq_true rfl⟩, hts _ (List.mem_cons_of_mem _ kw_1502)⟩ ⟨fun a U g mk q => by obtain ⟨q0, q1, qP, qK, qD⟩ := q; exact ⟨q0, q1, qP, va_K.moved (u := U) (U := U.calling g mk a) (Vm.Alike.refl U.vm) qK, qD⟩, fun U hU hW => ⟨rfl, by rw [hU], by rw [hU]; exact hPc, va_K.moved hW.alike hKc, hDc.weaken (fun _ _ _ _ => trivial)⟩⟩ rfl rfl hl.1 rfl (lv_room (Nat.le_of_ble_eq_true rfl)) dX8_compareRows_78 ⟨Nat.le_of_ble_eq_true rfl, Nat.le_of_ble_eq_true rfl⟩) hS (fun q _ h => hFc q h) hFc (fun r_20 u t_ H1 locs ht hvm hw hB hz1 hk1 hS => ?_)
              obtain ⟨hP1, hK1, hD1⟩ := hB
              rw [ht] at hP1
              have hK1 := va_K.moved hvm.symm hK1
              obtain ⟨hP, hD⟩ := va_join (wr := [(h0, .inr (9, [.ref hV, .ref hB, wo, wp])), (hV, .inl (cJ, n, .inr (.inl v1))), (hB, .inl (cB, n, .inl b1))]) (w1 := []) hP hD [] [0, 1, 2] rfl rfl (by decide) (by decide) hk1 hFc hP1 hD1
              have hK := (hK.sub (tys' := []) [] rfl).app hK1
              generalize H1 = H at hP hS ⊢
              have hP : va_P (dC, dI) vwCl [(h0, .inr (9, [.ref hV, .ref hB, wo, wp])), (hV, .inl (cJ, n, .inr (.inl v1))), (hB, .inl (cB, n, .inl b1))] H := hP
              have hD : va_D A [(h0, .inr (9, [.ref hV, .ref hB, wo, wp])), (hV, .inl (cJ, n, .inr (.inl v1))), (hB, .inl (cB, n, .inl b1))] := hD
              have hK : va_K (dC, dI) vwCl [(cB, .byte), (cI, .int), (cJ, .long), (cZ, .boolean)] s := hK
              have er_20 : r_20 = lcI (v1 (m1 + i)) (v1 (t1 + i)) := hw
              rw [er_20]
              refine lv_istore (lv' := [(7, .int (lcI (v1 (m1 + i)) (v1 (t1 + i)))), (6, .int (nI i)), (0, .ref h0), (1, .int (nI m1)), (2, .ref h0), (3, .int (nI t1)), (4, .int (nI w1)), (5, .int dn)]) hx hb dX8_compareRows_81 hl (by decide) rfl (fun ls hl => ?_)
              refine lv_iload hx hb dX8_compareRows_83 (lv_at hl 0 rfl) ?_
              refine lv_if_eq (tgt := 114) hx hb dX8_compareRows_85 (by decide) (fun c_21 => ?_) (fun c_21 => ?_)
              · skip
                refine lv_iinc (v := nI (i + 1)) (lv' := [(6, .int (nI (i + 1))), (7, .int (lcI (v1 (m1 + i)) (v1 (t1 + i)))), (0, .ref h0), (1, .int (nI m1)), (2, .ref h0), (3, .int (nI t1)), (4, .int (nI w1)), (5, .int dn)]) hx hb dX8_compareRows_114 hl (k := 1) rfl (nI_add i 1) (by decide) rfl (fun ls hl => ?_)
                refine lv_goto (tgt := 3) hx hb dX8_compareRows_117 (by decide) ?_
                exact ih_3 (i + 1) (by omega) (hin.trans (cmF_z (by omega) ((if_pos c_12).trans c_21))) (by omega) _ _ _ (hP.sub [0, 1, 2] rfl) (hD.sub [0, 1, 2] (by decide) rfl) hS (lv_sub hl [0, 2, 3, 4, 5, 6, 7] rfl)
              · skip
                refine lv_iload hx hb dX8_compareRows_88 (lv_at hl 1 rfl) ?_
                refine lv_bipush (v := 8) hx hb dX8_compareRows_90 (by decide) ?_
                refine lv_icmp_ge (tgt := 111) hx hb dX8_compareRows_92 (by decide) (fun c_22 => ?_) (fun c_22 => ?_)
                · skip
                  have c_22 : 8 ≤ i := (nI_leI (a := 8) (b := i) (by omega) (by omega)).mp c_22
                  refine lv_iload hx hb dX8_compareRows_111 (lv_at hl 0 rfl) ?_
                  have hP9 := hP.sub (ws' := [(h0, .inr (9, [.ref hV, .ref hB, wo, wp])), (hV, .inl (cJ, n, .inr (.inl v1))), (hB, .inl (cB, n, .inl b1))]) [0, 1, 2] rfl
                  have hD9 := hD.sub (ws' := [(h0, .inr (9, [.ref hV, .ref hB, wo, wp])), (hV, .inl (cJ, n, .inr (.inl v1))), (hB, .inl (cB, n, .inl b1))]) [0, 1, 2] (by decide) rfl
                  have hK9 := hK.sub (tys' := [(cB, .byte), (cI, .int), (cJ, .long), (cZ, .boolean)]) [0, 1, 2, 3] rfl
                  exact W.iret (v := (lcI (v1 (m1 + i)) (v1 (t1 + i)))) hx hb hr (fun t_ ht hW => ⟨⟨(lcI (v1 (m1 + i)) (v1 (t1 + i))), (), rfl, by rw [hin, cmF_n (by omega) (by rw [(show sgI (b1 (m1 + i)) (b1 (t1 + i)) (v1 (m1 + i)) (v1 (t1 + i)) = lcI (v1 (m1 + i)) (v1 (t1 + i)) from if_pos c_12)]; exact c_21), (show sgI (b1 (m1 + i)) (b1 (t1 + i)) (v1 (m1 + i)) (v1 (t1 + i)) = lcI (v1 (m1 + i)) (v1 (t1 + i)) from if_pos c_12)]; unfold dnI; rw [if_pos c_22], by rw [ht]; exact hP9, va_K.moved hW.alike hK9, hD9⟩, hS.F ht⟩) hS.2.2 dX8_compareRows_113
                · skip
                  have c_22 : ¬ (8 ≤ i) := fun h => c_22 ((nI_leI (a := 8) (b := i) (by omega) (by omega)).mpr h)
                  refine lv_iload hx hb dX8_compareRows_95 (lv_at hl 7 rfl) ?_
                  refine lv_iload hx hb dX8_compareRows_97 (lv_at hl 1 rfl) ?_
                  refine lv_ishr hx hb dX8_compareRows_99 ?_
                  refine lv_iconst (v := 1) hx hb dX8_compareRows_100 (by decide) ?_
                  refine lv_iand hx hb dX8_compareRows_101 ?_
                  refine lv_if_eq (tgt := 111) hx hb dX8_compareRows_102 (by decide) (fun c_23 => ?_) (fun c_23 => ?_)
                  · skip
                    refine lv_iload hx hb dX8_compareRows_111 (lv_at hl 0 rfl) ?_
                    have hP9 := hP.sub (ws' := [(h0, .inr (9, [.ref hV, .ref hB, wo, wp])), (hV, .inl (cJ, n, .inr (.inl v1))), (hB, .inl (cB, n, .inl b1))]) [0, 1, 2] rfl
                    have hD9 := hD.sub (ws' := [(h0, .inr (9, [.ref hV, .ref hB, wo, wp])), (hV, .inl (cJ, n, .inr (.inl v1))), (hB, .inl (cB, n, .inl b1))]) [0, 1, 2] (by decide) rfl
                    have hK9 := hK.sub (tys' := [(cB, .byte), (cI, .int), (cJ, .long), (cZ, .boolean)]) [0, 1, 2, 3] rfl
                    exact W.iret (v := (lcI (v1 (m1 + i)) (v1 (t1 + i)))) hx hb hr (fun t_ ht hW => ⟨⟨(lcI (v1 (m1 + i)) (v1 (t1 + i))), (), rfl, by rw [hin, cmF_n (by omega) (by rw [(show sgI (b1 (m1 + i)) (b1 (t1 + i)) (v1 (m1 + i)) (v1 (t1 + i)) = lcI (v1 (m1 + i)) (v1 (t1 + i)) from if_pos c_12)]; exact c_21), (show sgI (b1 (m1 + i)) (b1 (t1 + i)) (v1 (m1 + i)) (v1 (t1 + i)) = lcI (v1 (m1 + i)) (v1 (t1 + i)) from if_pos c_12)]; unfold dnI; rw [if_neg c_22, if_pos c_23], by rw [ht]; exact hP9, va_K.moved hW.alike hK9, hD9⟩, hS.F ht⟩) hS.2.2 dX8_compareRows_113
                  · skip
                    refine lv_iload hx hb dX8_compareRows_105 (lv_at hl 0 rfl) ?_
                    refine lv_ineg hx hb dX8_compareRows_107 ?_
                    refine lv_goto (tgt := 113) hx hb dX8_compareRows_108 (by decide) ?_
                    have hP9 := hP.sub (ws' := [(h0, .inr (9, [.ref hV, .ref hB, wo, wp])), (hV, .inl (cJ, n, .inr (.inl v1))), (hB, .inl (cB, n, .inl b1))]) [0, 1, 2] rfl
                    have hD9 := hD.sub (ws' := [(h0, .inr (9, [.ref hV, .ref hB, wo, wp])), (hV, .inl (cJ, n, .inr (.inl v1))), (hB, .inl (cB, n, .inl b1))]) [0, 1, 2] (by decide) rfl
                    have hK9 := hK.sub (tys' := [(cB, .byte), (cI, .int), (cJ, .long), (cZ, .boolean)]) [0, 1, 2, 3] rfl
                    exact W.iret (v := (-(lcI (v1 (m1 + i)) (v1 (t1 + i))))) hx hb hr (fun t_ ht hW => ⟨⟨(-(lcI (v1 (m1 + i)) (v1 (t1 + i)))), (), rfl, by rw [hin, cmF_n (by omega) (by rw [(show sgI (b1 (m1 + i)) (b1 (t1 + i)) (v1 (m1 + i)) (v1 (t1 + i)) = lcI (v1 (m1 + i)) (v1 (t1 + i)) from if_pos c_12)]; exact c_21), (show sgI (b1 (m1 + i)) (b1 (t1 + i)) (v1 (m1 + i)) (v1 (t1 + i)) = lcI (v1 (m1 + i)) (v1 (t1 + i)) from if_pos c_12)]; unfold dnI; rw [if_neg c_22, if_neg c_23], by rw [ht]; exact hP9, va_K.moved hW.alike hK9, hD9⟩, hS.F ht⟩) hS.2.2 dX8_compareRows_113
          · skip
            exact absurd c_7 (by decide)
  exact lp_3 _ 0 (Nat.zero_le _) rfl (Nat.lt_succ_self _) _ _ _ (hP.sub [0, 1, 2] rfl) (hD.sub [0, 1, 2] (by decide) rfl) hS (lv_sub hl [0, 1, 2, 3, 4, 5, 6] rfl)
