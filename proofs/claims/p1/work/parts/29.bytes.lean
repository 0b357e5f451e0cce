def btF (g : Nat → Int32) (n i : Nat) : Int32 := if n ≤ i then -1 else g i
def skB (g : Nat → Int32) (n : Nat) : Nat → Nat → Nat
  | 0, k => k
  | f + 1, k => if n ≤ k then k else if bkI (g k) = 0 then k else skB g n f (k + 1)
theorem skB_e {g : Nat → Int32} {n k : Nat} (h : n ≤ k) : skB g n (n - k) k = k := by rw [show n - k = 0 by omega]; rfl
theorem skB_y {g : Nat → Int32} {n k : Nat} (hk : ¬ n ≤ k) (h : bkI (g k) = 0) : skB g n (n - k) k = k := by
  rw [show n - k = (n - (k + 1)) + 1 by omega]
  exact (if_neg hk).trans (if_pos h)
theorem skB_n {g : Nat → Int32} {n k : Nat} (hk : ¬ n ≤ k) (h : ¬ bkI (g k) = 0) : skB g n (n - k) k = skB g n (n - (k + 1)) (k + 1) := by
  rw [show n - k = (n - (k + 1)) + 1 by omega]
  exact (if_neg hk).trans (if_neg h)
theorem dX10_byteAt_0 : decode cX10_byteAt 0 = .ok (.iload_n 1, 1) := by decide +kernel
theorem dX10_byteAt_1 : decode cX10_byteAt 1 = .ok (.ifCond .lt 29, 3) := by decide +kernel
theorem dX10_byteAt_4 : decode cX10_byteAt 4 = .ok (.iload_n 1, 1) := by decide +kernel
theorem dX10_byteAt_5 : decode cX10_byteAt 5 = .ok (.aload_n 0, 1) := by decide +kernel
theorem dX10_byteAt_6 : decode cX10_byteAt 6 = .ok (.getfield 53, 3) := by decide +kernel
theorem dX10_byteAt_9 : decode cX10_byteAt 9 = .ok (.if_icmp .ge 21, 3) := by decide +kernel
theorem dX10_byteAt_12 : decode cX10_byteAt 12 = .ok (.iload_n 1, 1) := by decide +kernel
theorem dX10_byteAt_13 : decode cX10_byteAt 13 = .ok (.aload_n 0, 1) := by decide +kernel
theorem dX10_byteAt_14 : decode cX10_byteAt 14 = .ok (.getfield 22, 3) := by decide +kernel
theorem dX10_byteAt_17 : decode cX10_byteAt 17 = .ok (.arraylength, 1) := by decide +kernel
theorem dX10_byteAt_18 : decode cX10_byteAt 18 = .ok (.if_icmp .ge 12, 3) := by decide +kernel
theorem dX10_byteAt_21 : decode cX10_byteAt 21 = .ok (.aload_n 0, 1) := by decide +kernel
theorem dX10_byteAt_22 : decode cX10_byteAt 22 = .ok (.getfield 22, 3) := by decide +kernel
theorem dX10_byteAt_25 : decode cX10_byteAt 25 = .ok (.iload_n 1, 1) := by decide +kernel
theorem dX10_byteAt_26 : decode cX10_byteAt 26 = .ok (.baload, 1) := by decide +kernel
theorem dX10_byteAt_27 : decode cX10_byteAt 27 = .ok (.goto 4, 3) := by decide +kernel
theorem dX10_byteAt_30 : decode cX10_byteAt 30 = .ok (.iconst (-1), 1) := by decide +kernel
theorem dX10_byteAt_31 : decode cX10_byteAt 31 = .ok (.ireturn, 1) := by decide +kernel
abbrev cs_t_X10_byteAt (cB cI cJ cZ : ClassId) (h0 hT n k0 : Nat) (g : Nat → Int32) (y0 y1 y2 y6 : Value) (i : Nat) : va_W := [(h0, .inr (11, [y0, y1, y2, .ref hT, .int (nI n), .int (nI k0), y6])), (hT, .inl (cB, 2000, .inl g))]
abbrev pc_t_X10_byteAt (dC : Nat → ClassId) (dI : Nat → Nat → Nat) (sz : Nat) (cB cI cJ cZ : ClassId) (h0 hT n k0 : Nat) (g : Nat → Int32) (y0 y1 y2 y6 : Value) (i : Nat) : Array Value → State → Prop := va_Pc [.ref h0, .int (nI i)] (fun U => U.heap.size = sz ∧ va_P (dC, dI) vwCl [(h0, .inr (11, [y0, y1, y2, .ref hT, .int (nI n), .int (nI k0), y6])), (hT, .inl (cB, 2000, .inl g))] U.heap ∧ va_K (dC, dI) vwCl [(cB, .byte), (cI, .int), (cJ, .long), (cZ, .boolean)] U ∧ va_D (fun _ => True) [(h0, .inr (11, [y0, y1, y2, .ref hT, .int (nI n), .int (nI k0), y6])), (hT, .inl (cB, 2000, .inl g))])
abbrev qc_t_X10_byteAt (dC : Nat → ClassId) (dI : Nat → Nat → Nat) (cB cI cJ cZ : ClassId) (h0 hT n k0 : Nat) (g : Nat → Int32) (y0 y1 y2 y6 : Value) (i : Nat) (A : Nat → Prop) : Array Value → State → Outcome → State → Prop := va_Qi (fun (r : Int32) (u : Unit) => match u with | _ => r = btF g n i) (fun (u : Unit) t_ => match u with | _ => va_P (dC, dI) vwCl [(h0, .inr (11, [y0, y1, y2, .ref hT, .int (nI n), .int (nI k0), y6])), (hT, .inl (cB, 2000, .inl g))] t_.heap ∧ va_K (dC, dI) vwCl [(cB, .byte), (cI, .int), (cJ, .long), (cZ, .boolean)] t_ ∧ va_D A [(h0, .inr (11, [y0, y1, y2, .ref hT, .int (nI n), .int (nI k0), y6])), (hT, .inl (cB, 2000, .inl g))]) A
set_option maxHeartbeats 4000000 in
set_option maxRecDepth 100000 in
theorem t_X10_byteAt (l : Launch) (dC : Nat → ClassId) (dI : Nat → Nat → Nat) (sz : Nat) (cB cI cJ cZ : ClassId) (h0 hT n k0 : Nat) (g : Nat → Int32) (y0 y1 y2 y6 : Value) (i : Nat) (hn : n ≤ 2000) (hi : i < 100000) : Met l yX10_byteAt (wsOf yX10_byteAt cX10_byteAt 2 (some .int)) ({ frames := 0, cells := 0, slots := 0, locals := 0 }) (pc_t_X10_byteAt dC dI sz cB cI cJ cZ h0 hT n k0 g y0 y1 y2 y6 i) (qc_t_X10_byteAt dC dI cB cI cJ cZ h0 hT n k0 g y0 y1 y2 y6 i (va_A (cs_t_X10_byteAt cB cI cJ cZ h0 hT n k0 g y0 y1 y2 y6 i) sz)) 0 0 (va_A (cs_t_X10_byteAt cB cI cJ cZ h0 hT n k0 g y0 y1 y2 y6 i) sz) := by
  refine Met.ofW (cc := cX10_byteAt) (maxL := 2) (ret := (some .int)) (by decide) rfl ?_
  intro p e s m args below meth c s₁ B hml hv
  obtain ⟨rfl, hsz, hP, hK, hD0⟩ := hv
  have hx := B.exec
  have hb := B.bytes
  have hr := B.returns
  have hts := atoms_spec (ws := (wsOf yX10_byteAt cX10_byteAt 2 (some .int))) B.pre
  have hown : s.vm.findClass RX10 = some m.cls := findClass_of_methodNamed B.named
  have hlocks := B.notSynchronized
  subst hsz
  have hD := hD0.self (sz := s.heap.size)
  generalize hAe : va_A (cs_t_X10_byteAt cB cI cJ cZ h0 hT n k0 g y0 y1 y2 y6 i) s.heap.size = A at hD ⊢
  have hA : ∀ q : Nat, s.heap.size ≤ q → A q := fun q h => by rw [← hAe]; exact Or.inr h
  have hS : va_S A s.heap s.heap [] := va_S.rf
  have hP : va_P (dC, dI) vwCl [(h0, .inr (11, [y0, y1, y2, .ref hT, .int (nI n), .int (nI k0), y6])), (hT, .inl (cB, 2000, .inl g))] s.heap := hP
  have hl := lv_entry ([.ref h0, .int (nI i)]) (n := 2) (Nat.le_of_ble_eq_true rfl)
  rw [lg_entry_eq]
  generalize (lg_sl ([.ref h0, .int (nI i)]) ++ List.replicate (2 - (lg_sl ([.ref h0, .int (nI i)])).length) Slot.unset).toArray = ls at hl ⊢
  have hl : lv_has ls 2 [(0, .ref h0), (1, .int (nI i))] := hl
  refine lv_iload_n hx hb dX10_byteAt_0 rfl (lv_at hl 1 rfl) ?_
  refine lv_if_lt (tgt := 30) hx hb dX10_byteAt_1 (by decide) (fun c_1 => ?_) (fun c_1 => ?_)
  · skip
    have c_1 : i < 0 := (nI_ltI (a := i) (b := 0) (by omega) (by omega)).mp c_1
    exact absurd c_1 (by omega)
  · skip
    have c_1 : ¬ (i < 0) := fun h => c_1 ((nI_ltI (a := i) (b := 0) (by omega) (by omega)).mpr h)
    refine lv_iload_n hx hb dX10_byteAt_4 rfl (lv_at hl 1 rfl) ?_
    refine lv_aload_n hx hb dX10_byteAt_5 rfl (lv_at hl 0 rfl) ?_
    refine va_get (D := (dC, dI)) (ci := 11) (v := .int (nI n)) (C := RX10) (T := TX10) (N := 7) hx hb hts (fun w h => List.mem_cons_of_mem _ (uG_X10 w h)) hown hK hP 0 rfl rfl 4 (by decide) (hts _ (List.mem_cons_of_mem _ kw_325)) (fun _ h9 => h9) rfl dX10_byteAt_6 ?_
    refine lv_icmp_ge (tgt := 30) hx hb dX10_byteAt_9 (by decide) (fun c_2 => ?_) (fun c_2 => ?_)
    · skip
      have c_2 : n ≤ i := (nI_leI (a := n) (b := i) (by omega) (by omega)).mp c_2
      refine lv_iconst (v := (-1)) hx hb dX10_byteAt_30 (by decide) ?_
      have hP9 := hP.sub (ws' := [(h0, .inr (11, [y0, y1, y2, .ref hT, .int (nI n), .int (nI k0), y6])), (hT, .inl (cB, 2000, .inl g))]) [0, 1] rfl
      have hD9 := hD.sub (ws' := [(h0, .inr (11, [y0, y1, y2, .ref hT, .int (nI n), .int (nI k0), y6])), (hT, .inl (cB, 2000, .inl g))]) [0, 1] (by decide) rfl
      have hK9 := hK.sub (tys' := [(cB, .byte), (cI, .int), (cJ, .long), (cZ, .boolean)]) [0, 1, 2, 3] rfl
      exact W.iret (v := (-1)) hx hb hr (fun t_ ht hW => ⟨⟨(-1), (), rfl, by unfold btF; rw [if_pos c_2], by rw [ht]; exact hP9, va_K.moved hW.alike hK9, hD9⟩, hS.F ht⟩) hS.2.2 dX10_byteAt_31
    · skip
      have c_2 : ¬ (n ≤ i) := fun h => c_2 ((nI_leI (a := n) (b := i) (by omega) (by omega)).mpr h)
      refine lv_iload_n hx hb dX10_byteAt_12 rfl (lv_at hl 1 rfl) ?_
      refine lv_aload_n hx hb dX10_byteAt_13 rfl (lv_at hl 0 rfl) ?_
      refine va_get (D := (dC, dI)) (ci := 11) (v := .ref hT) (C := RX10) (T := TX10) (N := 7) hx hb hts (fun w h => List.mem_cons_of_mem _ (uG_X10 w h)) hown hK hP 0 rfl rfl 3 (by decide) (hts _ (List.mem_cons_of_mem _ kw_324)) (fun _ h9 => h9) rfl dX10_byteAt_14 ?_
      refine va_alen (v := 2000) hx hb hK hP 1 0 rfl rfl rfl dX10_byteAt_17 ?_
      refine lv_icmp_ge (tgt := 30) hx hb dX10_byteAt_18 (by decide) (fun c_3 => ?_) (fun c_3 => ?_)
      · skip
        have c_3 : 2000 ≤ i := (nI_leI (a := 2000) (b := i) (by omega) (by omega)).mp c_3
        exact absurd c_3 (by omega)
      · skip
        have c_3 : ¬ (2000 ≤ i) := fun h => c_3 ((nI_leI (a := 2000) (b := i) (by omega) (by omega)).mpr h)
        refine lv_aload_n hx hb dX10_byteAt_21 rfl (lv_at hl 0 rfl) ?_
        refine va_get (D := (dC, dI)) (ci := 11) (v := .ref hT) (C := RX10) (T := TX10) (N := 7) hx hb hts (fun w h => List.mem_cons_of_mem _ (uG_X10 w h)) hown hK hP 0 rfl rfl 3 (by decide) (hts _ (List.mem_cons_of_mem _ kw_324)) (fun _ h9 => h9) rfl dX10_byteAt_22 ?_
        refine lv_iload_n hx hb dX10_byteAt_25 rfl (lv_at hl 1 rfl) ?_
        refine va_bald hx hb hK hP 1 0 rfl rfl (i := (nI i)) (vp_in_nI (n := i) (N := 2000) (by omega) (by omega)) dX10_byteAt_26 ?_
        refine lv_topi (fun x_4 ex_4 => ?_)
        have ex_4 : x_4 = g i := ex_4.trans (congrArg g (nI_clamp (n := i) (by omega)))
        subst ex_4
        refine lv_goto (tgt := 31) hx hb dX10_byteAt_27 (by decide) ?_
        have hP9 := hP.sub (ws' := [(h0, .inr (11, [y0, y1, y2, .ref hT, .int (nI n), .int (nI k0), y6])), (hT, .inl (cB, 2000, .inl g))]) [0, 1] rfl
        have hD9 := hD.sub (ws' := [(h0, .inr (11, [y0, y1, y2, .ref hT, .int (nI n), .int (nI k0), y6])), (hT, .inl (cB, 2000, .inl g))]) [0, 1] (by decide) rfl
        have hK9 := hK.sub (tys' := [(cB, .byte), (cI, .int), (cJ, .long), (cZ, .boolean)]) [0, 1, 2, 3] rfl
        exact W.iret (v := (g i)) hx hb hr (fun t_ ht hW => ⟨⟨(g i), (), rfl, by unfold btF; rw [if_neg c_2], by rw [ht]; exact hP9, va_K.moved hW.alike hK9, hD9⟩, hS.F ht⟩) hS.2.2 dX10_byteAt_31
theorem dX10_skipBlanks_0 : decode cX10_skipBlanks 0 = .ok (.aload_n 0, 1) := by decide +kernel
theorem dX10_skipBlanks_1 : decode cX10_skipBlanks 1 = .ok (.getfield 57, 3) := by decide +kernel
theorem dX10_skipBlanks_4 : decode cX10_skipBlanks 4 = .ok (.aload_n 0, 1) := by decide +kernel
theorem dX10_skipBlanks_5 : decode cX10_skipBlanks 5 = .ok (.getfield 53, 3) := by decide +kernel
theorem dX10_skipBlanks_8 : decode cX10_skipBlanks 8 = .ok (.if_icmp .ge 30, 3) := by decide +kernel
theorem dX10_skipBlanks_11 : decode cX10_skipBlanks 11 = .ok (.aload_n 0, 1) := by decide +kernel
theorem dX10_skipBlanks_12 : decode cX10_skipBlanks 12 = .ok (.aload_n 0, 1) := by decide +kernel
theorem dX10_skipBlanks_13 : decode cX10_skipBlanks 13 = .ok (.getfield 57, 3) := by decide +kernel
theorem dX10_skipBlanks_16 : decode cX10_skipBlanks 16 = .ok (.invokevirtual 67, 3) := by decide +kernel
theorem dX10_skipBlanks_19 : decode cX10_skipBlanks 19 = .ok (.invokestatic 86, 3) := by decide +kernel
theorem dX10_skipBlanks_22 : decode cX10_skipBlanks 22 = .ok (.ifCond .eq 16, 3) := by decide +kernel
theorem dX10_skipBlanks_25 : decode cX10_skipBlanks 25 = .ok (.aload_n 0, 1) := by decide +kernel
theorem dX10_skipBlanks_26 : decode cX10_skipBlanks 26 = .ok (.dup, 1) := by decide +kernel
theorem dX10_skipBlanks_27 : decode cX10_skipBlanks 27 = .ok (.getfield 57, 3) := by decide +kernel
theorem dX10_skipBlanks_30 : decode cX10_skipBlanks 30 = .ok (.iconst 1, 1) := by decide +kernel
theorem dX10_skipBlanks_31 : decode cX10_skipBlanks 31 = .ok (.iadd, 1) := by decide +kernel
theorem dX10_skipBlanks_32 : decode cX10_skipBlanks 32 = .ok (.putfield 57, 3) := by decide +kernel
theorem dX10_skipBlanks_35 : decode cX10_skipBlanks 35 = .ok (.goto (-35), 3) := by decide +kernel
theorem dX10_skipBlanks_38 : decode cX10_skipBlanks 38 = .ok (.return_, 1) := by decide +kernel
abbrev cs_t_X10_skipBlanks (cB cI cJ cZ : ClassId) (h0 hT n k0 : Nat) (g : Nat → Int32) (y0 y1 y2 y6 : Value) : va_W := [(h0, .inr (11, [y0, y1, y2, .ref hT, .int (nI n), .int (nI k0), y6])), (hT, .inl (cB, 2000, .inl g))]
abbrev pc_t_X10_skipBlanks (dC : Nat → ClassId) (dI : Nat → Nat → Nat) (sz : Nat) (cB cI cJ cZ : ClassId) (h0 hT n k0 : Nat) (g : Nat → Int32) (y0 y1 y2 y6 : Value) : Array Value → State → Prop := va_Pc [.ref h0] (fun U => U.heap.size = sz ∧ va_P (dC, dI) vwCl [(h0, .inr (11, [y0, y1, y2, .ref hT, .int (nI n), .int (nI k0), y6])), (hT, .inl (cB, 2000, .inl g))] U.heap ∧ va_K (dC, dI) vwCl [(cB, .byte), (cI, .int), (cJ, .long), (cZ, .boolean)] U ∧ va_D (fun _ => True) [(h0, .inr (11, [y0, y1, y2, .ref hT, .int (nI n), .int (nI k0), y6])), (hT, .inl (cB, 2000, .inl g))])
abbrev qc_t_X10_skipBlanks (dC : Nat → ClassId) (dI : Nat → Nat → Nat) (cB cI cJ cZ : ClassId) (h0 hT n k0 : Nat) (g : Nat → Int32) (y0 y1 y2 y6 : Value) (A : Nat → Prop) : Array Value → State → Outcome → State → Prop := va_Qv (fun (u : Nat) => match u with | k2 => k2 = skB g n (n - k0) k0) (fun (u : Nat) t_ => match u with | k2 => va_P (dC, dI) vwCl [(h0, .inr (11, [y0, y1, y2, .ref hT, .int (nI n), .int (nI k2), y6])), (hT, .inl (cB, 2000, .inl g))] t_.heap ∧ va_K (dC, dI) vwCl [(cB, .byte), (cI, .int), (cJ, .long), (cZ, .boolean)] t_ ∧ va_D A [(h0, .inr (11, [y0, y1, y2, .ref hT, .int (nI n), .int (nI k2), y6])), (hT, .inl (cB, 2000, .inl g))]) A
set_option maxHeartbeats 4000000 in
set_option maxRecDepth 100000 in
theorem t_X10_skipBlanks (l : Launch) (dC : Nat → ClassId) (dI : Nat → Nat → Nat) (sz : Nat) (cB cI cJ cZ : ClassId) (h0 hT n k0 : Nat) (g : Nat → Int32) (y0 y1 y2 y6 : Value) (hn : n ≤ 2000) (hk0 : k0 ≤ 2001) : Met l yX10_skipBlanks (wsOf yX10_skipBlanks cX10_skipBlanks 1 none) ({ frames := 1, cells := 0, slots := 0, locals := 60 }) (pc_t_X10_skipBlanks dC dI sz cB cI cJ cZ h0 hT n k0 g y0 y1 y2 y6) (qc_t_X10_skipBlanks dC dI cB cI cJ cZ h0 hT n k0 g y0 y1 y2 y6 (va_A (cs_t_X10_skipBlanks cB cI cJ cZ h0 hT n k0 g y0 y1 y2 y6) sz)) 0 0 (va_A (cs_t_X10_skipBlanks cB cI cJ cZ h0 hT n k0 g y0 y1 y2 y6) sz) := by
  refine Met.ofW (cc := cX10_skipBlanks) (maxL := 1) (ret := none) (by decide) rfl ?_
  intro p e s m args below meth c s₁ B hml hv
  obtain ⟨rfl, hsz, hP, hK, hD0⟩ := hv
  have hx := B.exec
  have hb := B.bytes
  have hr := B.returns
  have hts := atoms_spec (ws := (wsOf yX10_skipBlanks cX10_skipBlanks 1 none)) B.pre
  have hown : s.vm.findClass RX10 = some m.cls := findClass_of_methodNamed B.named
  have hlocks := B.notSynchronized
  subst hsz
  have hD := hD0.self (sz := s.heap.size)
  generalize hAe : va_A (cs_t_X10_skipBlanks cB cI cJ cZ h0 hT n k0 g y0 y1 y2 y6) s.heap.size = A at hD ⊢
  have hA : ∀ q : Nat, s.heap.size ≤ q → A q := fun q h => by rw [← hAe]; exact Or.inr h
  have hS : va_S A s.heap s.heap [] := va_S.rf
  have hP : va_P (dC, dI) vwCl [(h0, .inr (11, [y0, y1, y2, .ref hT, .int (nI n), .int (nI k0), y6])), (hT, .inl (cB, 2000, .inl g))] s.heap := hP
  have hl := lv_entry ([.ref h0]) (n := 1) (Nat.le_of_ble_eq_true rfl)
  rw [lg_entry_eq]
  generalize (lg_sl ([.ref h0]) ++ List.replicate (1 - (lg_sl ([.ref h0])).length) Slot.unset).toArray = ls at hl ⊢
  have hl : lv_has ls 1 [(0, .ref h0)] := hl
  have lp_0 : ∀ (n_ : Nat) (k : Nat), k ≤ n ∨ k = k0 → skB g n (n - k0) k0 = skB g n (n - k) k → n - k < n_ → ∀ (H : Heap) (locs : List Loc) (ls : Array Slot), va_P (dC, dI) vwCl [(h0, .inr (11, [y0, y1, y2, .ref hT, .int (nI n), .int (nI k), y6])), (hT, .inl (cB, 2000, .inl g))] H → va_D A [(h0, .inr (11, [y0, y1, y2, .ref hT, .int (nI n), .int (nI k), y6])), (hT, .inl (cB, 2000, .inl g))] → va_S A s.heap H locs → lv_has ls 1 [(0, .ref h0)] → W p l e (headSpec (wsOf yX10_skipBlanks cX10_skipBlanks 1 none) ({ frames := 1, cells := 0, slots := 0, locals := 60 })).room s m ([.ref h0] : List Value).toArray below meth c H locs 0 0 (MQ below (qc_t_X10_skipBlanks dC dI cB cI cJ cZ h0 hT n k0 g y0 y1 y2 y6 A) ([.ref h0] : List Value).toArray s 0 0 A) (F0 m 0 ls []) := by
    intro n_
    induction n_ with
    | zero => intro k hk hin hm; exact absurd hm (Nat.not_lt_zero _)
    | succ n_ ih_0 =>
      intro k hk hin hm H locs ls hP hD hS hl
      refine lv_aload_n hx hb dX10_skipBlanks_0 rfl (lv_at hl 0 rfl) ?_
      refine va_get (D := (dC, dI)) (ci := 11) (v := .int (nI k)) (C := RX10) (T := TX10) (N := 7) hx hb hts (fun w h => List.mem_cons_of_mem _ (uG_X10 w h)) hown hK hP 0 rfl rfl 5 (by decide) (hts _ (List.mem_cons_of_mem _ kw_326)) (fun _ h9 => h9) rfl dX10_skipBlanks_1 ?_
      refine lv_aload_n hx hb dX10_skipBlanks_4 rfl (lv_at hl 0 rfl) ?_
      refine va_get (D := (dC, dI)) (ci := 11) (v := .int (nI n)) (C := RX10) (T := TX10) (N := 7) hx hb hts (fun w h => List.mem_cons_of_mem _ (uG_X10 w h)) hown hK hP 0 rfl rfl 4 (by decide) (hts _ (List.mem_cons_of_mem _ kw_325)) (fun _ h9 => h9) rfl dX10_skipBlanks_5 ?_
      refine lv_icmp_ge (tgt := 38) hx hb dX10_skipBlanks_8 (by decide) (fun c_1 => ?_) (fun c_1 => ?_)
      · skip
        have c_1 : n ≤ k := (nI_leI (a := n) (b := k) (by omega) (by omega)).mp c_1
        have hP9 := hP.sub (ws' := [(h0, .inr (11, [y0, y1, y2, .ref hT, .int (nI n), .int (nI k), y6])), (hT, .inl (cB, 2000, .inl g))]) [0, 1] rfl
        have hD9 := hD.sub (ws' := [(h0, .inr (11, [y0, y1, y2, .ref hT, .int (nI n), .int (nI k), y6])), (hT, .inl (cB, 2000, .inl g))]) [0, 1] (by decide) rfl
        have hK9 := hK.sub (tys' := [(cB, .byte), (cI, .int), (cJ, .long), (cZ, .boolean)]) [0, 1, 2, 3] rfl
        exact W.vret hx hb hr (fun t_ ht hW => ⟨⟨k, rfl, (hin.trans (skB_e c_1)).symm, by rw [ht]; exact hP9, va_K.moved hW.alike hK9, hD9⟩, hS.F ht⟩) hS.2.2 dX10_skipBlanks_38
      · skip
        have c_1 : ¬ (n ≤ k) := fun h => c_1 ((nI_leI (a := n) (b := k) (by omega) (by omega)).mpr h)
        refine lv_aload_n hx hb dX10_skipBlanks_11 rfl (lv_at hl 0 rfl) ?_
        refine lv_aload_n hx hb dX10_skipBlanks_12 rfl (lv_at hl 0 rfl) ?_
        refine va_get (D := (dC, dI)) (ci := 11) (v := .int (nI k)) (C := RX10) (T := TX10) (N := 7) hx hb hts (fun w h => List.mem_cons_of_mem _ (uG_X10 w h)) hown hK hP 0 rfl rfl 5 (by decide) (hts _ (List.mem_cons_of_mem _ kw_326)) (fun _ h9 => h9) rfl dX10_skipBlanks_13 ?_
        have hPc := hP.sub (ws' := [(h0, .inr (11, [y0, y1, y2, .ref hT, .int (nI n), .int (nI k), y6])), (hT, .inl (cB, 2000, .inl g))]) [0, 1] rfl
        have hDc := hD.sub (ws' := [(h0, .inr (11, [y0, y1, y2, .ref hT, .int (nI n), .int (nI k), y6])), (hT, .inl (cB, 2000, .inl g))]) [0, 1] (by decide) rfl
        have hKc := hK.sub (tys' := [(cB, .byte), (cI, .int), (cJ, .long), (cZ, .boolean)]) [0, 1, 2, 3] rfl
        have hFc := va_free (wc := [(h0, .inr (11, [y0, y1, y2, .ref hT, .int (nI n), .int (nI k), y6])), (hT, .inl (cB, 2000, .inl g))]) hD hS hA [0, 1] rfl
        refine va_calli (va_runV (As := [.int (nI k)]) (rest := []) ⟨hx, hb, hml, hown, hts⟩ (t_X10_byteAt l dC dI H.size cB cI cJ cZ h0 hT n k g y0 y1 y2 y6 k hn (by omega)) (cwV 1 hts (gd_all (in_V kw_512 kw_514 kw_2 kw_183 kc_X10_byteAt)) rfl rfl rfl (by decide +kernel) ⟨Nat.le_of_ble_eq_true rfl, Nat.le_of_ble_eq_true rfl⟩) ⟨fun a U g mk q => by obtain ⟨q0, q1, qP, qK, qD⟩ := q; exact ⟨q0, q1, qP, va_K.moved (u := U) (U := U.calling g mk a) (Vm.Alike.refl U.vm) qK, qD⟩, va_recv hKc hPc (ci := 11) (q0 := 0) rfl rfl, fun U hU hW => ⟨rfl, by rw [hU], by rw [hU]; exact hPc, va_K.moved hW.alike hKc, hDc.weaken (fun _ _ _ _ => trivial)⟩⟩ rfl rfl hl.1 rfl (lv_room (Nat.le_of_ble_eq_true rfl)) dX10_skipBlanks_16 ⟨Nat.le_of_ble_eq_true rfl, Nat.le_of_ble_eq_true rfl⟩) hS (fun q _ h => hFc q h) hFc (fun r_2 u t_ H1 locs ht hvm hw hB hz1 hk1 hS => ?_)
        obtain ⟨hP1, hK1, hD1⟩ := hB
        rw [ht] at hP1
        have hK1 := va_K.moved hvm.symm hK1
        obtain ⟨hP, hD⟩ := va_join (wr := []) (w1 := [(h0, .inr (11, [y0, y1, y2, .ref hT, .int (nI n), .int (nI k), y6])), (hT, .inl (cB, 2000, .inl g))]) hP hD [0, 1] [] rfl rfl (by decide) (by decide) hk1 hFc hP1 hD1
        have hK := (hK.sub (tys' := []) [] rfl).app hK1
        generalize H1 = H at hP hS ⊢
        have hP : va_P (dC, dI) vwCl [(h0, .inr (11, [y0, y1, y2, .ref hT, .int (nI n), .int (nI k), y6])), (hT, .inl (cB, 2000, .inl g))] H := hP
        have hD : va_D A [(h0, .inr (11, [y0, y1, y2, .ref hT, .int (nI n), .int (nI k), y6])), (hT, .inl (cB, 2000, .inl g))] := hD
        have hK : va_K (dC, dI) vwCl [(cB, .byte), (cI, .int), (cJ, .long), (cZ, .boolean)] s := hK
        have er_2 : r_2 = g k := hw.trans (if_neg c_1)
        rw [er_2]
        have hPc := hP.sub (ws' := []) [] rfl
        have hDc := hD.sub (ws' := []) [] (by decide) rfl
        have hKc := hK.sub (tys' := [(cB, .byte), (cI, .int), (cJ, .long), (cZ, .boolean)]) [0, 1, 2, 3] rfl
        have hFc := va_free (wc := []) hD hS hA [] rfl
        refine va_calli (va_runS (As := [.int (g k)]) (rest := []) ⟨hx, hb, hml, hown, hts⟩ (t_X10_isBlankByte l dC dI H.size cB cI cJ cZ (g k)) ⟨callB_of 1 hts (gd_all (in_I kc_X10_isBlankByte)) rfl rfl rfl (hts _ (List.mem_cons_of_mem _ kw_183)) (hts _ (List.mem_cons_of_mem _ kw_516)) (by decide +kernel) ⟨Nat.le_of_ble_eq_true rfl, Nat.le_of_ble_eq_true rfl⟩, hts _ (List.mem_cons_of_mem _ kw_517)⟩ ⟨fun a U g mk q => by obtain ⟨q0, q1, qP, qK, qD⟩ := q; exact ⟨q0, q1, qP, va_K.moved (u := U) (U := U.calling g mk a) (Vm.Alike.refl U.vm) qK, qD⟩, fun U hU hW => ⟨rfl, by rw [hU], by rw [hU]; exact hPc, va_K.moved hW.alike hKc, hDc.weaken (fun _ _ _ _ => trivial)⟩⟩ rfl rfl hl.1 rfl (lv_room (Nat.le_of_ble_eq_true rfl)) dX10_skipBlanks_19 ⟨Nat.le_of_ble_eq_true rfl, Nat.le_of_ble_eq_true rfl⟩) hS (fun q _ h => hFc q h) hFc (fun r_3 u t_ H1 locs ht hvm hw hB hz1 hk1 hS => ?_)
        obtain ⟨hP1, hK1, hD1⟩ := hB
        rw [ht] at hP1
        have hK1 := va_K.moved hvm.symm hK1
        obtain ⟨hP, hD⟩ := va_join (wr := [(h0, .inr (11, [y0, y1, y2, .ref hT, .int (nI n), .int (nI k), y6])), (hT, .inl (cB, 2000, .inl g))]) (w1 := []) hP hD [] [0, 1] rfl rfl (by decide) (by decide) hk1 hFc hP1 hD1
        have hK := (hK.sub (tys' := []) [] rfl).app hK1
        generalize H1 = H at hP hS ⊢
        have hP : va_P (dC, dI) vwCl [(h0, .inr (11, [y0, y1, y2, .ref hT, .int (nI n), .int (nI k), y6])), (hT, .inl (cB, 2000, .inl g))] H := hP
        have hD : va_D A [(h0, .inr (11, [y0, y1, y2, .ref hT, .int (nI n), .int (nI k), y6])), (hT, .inl (cB, 2000, .inl g))] := hD
        have hK : va_K (dC, dI) vwCl [(cB, .byte), (cI, .int), (cJ, .long), (cZ, .boolean)] s := hK
        have er_3 : r_3 = bkI (g k) := hw
        rw [er_3]
        refine lv_if_eq (tgt := 38) hx hb dX10_skipBlanks_22 (by decide) (fun c_4 => ?_) (fun c_4 => ?_)
        · skip
          have hP9 := hP.sub (ws' := [(h0, .inr (11, [y0, y1, y2, .ref hT, .int (nI n), .int (nI k), y6])), (hT, .inl (cB, 2000, .inl g))]) [0, 1] rfl
          have hD9 := hD.sub (ws' := [(h0, .inr (11, [y0, y1, y2, .ref hT, .int (nI n), .int (nI k), y6])), (hT, .inl (cB, 2000, .inl g))]) [0, 1] (by decide) rfl
          have hK9 := hK.sub (tys' := [(cB, .byte), (cI, .int), (cJ, .long), (cZ, .boolean)]) [0, 1, 2, 3] rfl
          exact W.vret hx hb hr (fun t_ ht hW => ⟨⟨k, rfl, (hin.trans (skB_y c_1 c_4)).symm, by rw [ht]; exact hP9, va_K.moved hW.alike hK9, hD9⟩, hS.F ht⟩) hS.2.2 dX10_skipBlanks_38
        · skip
          refine lv_aload_n hx hb dX10_skipBlanks_25 rfl (lv_at hl 0 rfl) ?_
          refine lv_dup hx hb dX10_skipBlanks_26 rfl ?_
          refine va_get (D := (dC, dI)) (ci := 11) (v := .int (nI k)) (C := RX10) (T := TX10) (N := 7) hx hb hts (fun w h => List.mem_cons_of_mem _ (uG_X10 w h)) hown hK hP 0 rfl rfl 5 (by decide) (hts _ (List.mem_cons_of_mem _ kw_326)) (fun _ h9 => h9) rfl dX10_skipBlanks_27 ?_
          refine lv_iconst (v := 1) hx hb dX10_skipBlanks_30 (by decide) ?_
          refine lv_iadd hx hb dX10_skipBlanks_31 ?_
          refine lv_topi (fun x_5 ex_5 => ?_)
          have ex_5 : x_5 = nI (k + 1) := ex_5.trans (nI_add k 1)
          subst ex_5
          refine va_put (D := (dC, dI)) (ci := 11) (v := .int (nI (k + 1))) (ty := .int) (C := RX10) (T := TX10) (N := 7) hx hb hts (fun w h => List.mem_cons_of_mem _ (uG_X10 w h)) tyX10 tyX10_ok nmX10 hown hK hP hD hS 0 rfl rfl 5 (by decide) (hts _ (List.mem_cons_of_mem _ kw_326)) (fun _ h9 => h9) rfl (by decide +kernel) rfl rfl (Nat.le_of_ble_eq_true rfl) dX10_skipBlanks_32 (fun H locs hP hD hS => ?_)
          have hP : va_P (dC, dI) vwCl [(h0, .inr (11, [y0, y1, y2, .ref hT, .int (nI n), .int (nI (k + 1)), y6])), (hT, .inl (cB, 2000, .inl g))] H := hP
          have hD : va_D A [(h0, .inr (11, [y0, y1, y2, .ref hT, .int (nI n), .int (nI (k + 1)), y6])), (hT, .inl (cB, 2000, .inl g))] := hD
          refine lv_goto (tgt := 0) hx hb dX10_skipBlanks_35 (by decide) ?_
          exact ih_0 (k + 1) (Or.inl (by omega)) (hin.trans (skB_n c_1 c_4)) (by omega) _ _ _ (hP.sub [0, 1] rfl) (hD.sub [0, 1] (by decide) rfl) hS (lv_sub hl [0] rfl)
  exact lp_0 _ k0 (Or.inr rfl) rfl (Nat.lt_succ_self _) _ _ _ (hP.sub [0, 1] rfl) (hD.sub [0, 1] (by decide) rfl) hS (lv_sub hl [0] rfl)
theorem dX10_wordKind_0 : decode cX10_wordKind 0 = .ok (.iconst 0, 1) := by decide +kernel
theorem dX10_wordKind_1 : decode cX10_wordKind 1 = .ok (.istore_n 3, 1) := by decide +kernel
theorem dX10_wordKind_2 : decode cX10_wordKind 2 = .ok (.iload_n 3, 1) := by decide +kernel
theorem dX10_wordKind_3 : decode cX10_wordKind 3 = .ok (.aload_n 0, 1) := by decide +kernel
theorem dX10_wordKind_4 : decode cX10_wordKind 4 = .ok (.getfield 26, 3) := by decide +kernel
theorem dX10_wordKind_7 : decode cX10_wordKind 7 = .ok (.arraylength, 1) := by decide +kernel
theorem dX10_wordKind_8 : decode cX10_wordKind 8 = .ok (.if_icmp .ge 22, 3) := by decide +kernel
theorem dX10_wordKind_11 : decode cX10_wordKind 11 = .ok (.aload_n 0, 1) := by decide +kernel
theorem dX10_wordKind_12 : decode cX10_wordKind 12 = .ok (.getfield 26, 3) := by decide +kernel
theorem dX10_wordKind_15 : decode cX10_wordKind 15 = .ok (.iload_n 3, 1) := by decide +kernel
theorem dX10_wordKind_16 : decode cX10_wordKind 16 = .ok (.laload, 1) := by decide +kernel
theorem dX10_wordKind_17 : decode cX10_wordKind 17 = .ok (.lload_n 1, 1) := by decide +kernel
theorem dX10_wordKind_18 : decode cX10_wordKind 18 = .ok (.lcmp, 1) := by decide +kernel
theorem dX10_wordKind_19 : decode cX10_wordKind 19 = .ok (.ifCond .ne 5, 3) := by decide +kernel
theorem dX10_wordKind_22 : decode cX10_wordKind 22 = .ok (.iload_n 3, 1) := by decide +kernel
theorem dX10_wordKind_23 : decode cX10_wordKind 23 = .ok (.ireturn, 1) := by decide +kernel
theorem dX10_wordKind_24 : decode cX10_wordKind 24 = .ok (.iinc 3 1, 3) := by decide +kernel
theorem dX10_wordKind_27 : decode cX10_wordKind 27 = .ok (.goto (-25), 3) := by decide +kernel
theorem dX10_wordKind_30 : decode cX10_wordKind 30 = .ok (.bipush 39, 2) := by decide +kernel
theorem dX10_wordKind_32 : decode cX10_wordKind 32 = .ok (.ireturn, 1) := by decide +kernel
abbrev cs_t_X10_wordKind (cB cI cJ cZ : ClassId) (h0 hW : Nat) (tk : Nat → Int64) (y0 y1 y2 y3 : Value) (j4 j5 : Int32) (v : Int64) : va_W := [(h0, .inr (11, [y0, y1, y2, y3, .int j4, .int j5, .ref hW])), (hW, .inl (cJ, 39, .inr (.inl tk)))]
abbrev pc_t_X10_wordKind (dC : Nat → ClassId) (dI : Nat → Nat → Nat) (sz : Nat) (cB cI cJ cZ : ClassId) (h0 hW : Nat) (tk : Nat → Int64) (y0 y1 y2 y3 : Value) (j4 j5 : Int32) (v : Int64) : Array Value → State → Prop := va_Pc [.ref h0, .long v] (fun U => U.heap.size = sz ∧ va_P (dC, dI) vwCl [(h0, .inr (11, [y0, y1, y2, y3, .int j4, .int j5, .ref hW])), (hW, .inl (cJ, 39, .inr (.inl tk)))] U.heap ∧ va_K (dC, dI) vwCl [(cB, .byte), (cI, .int), (cJ, .long), (cZ, .boolean)] U ∧ va_D (fun _ => True) [(h0, .inr (11, [y0, y1, y2, y3, .int j4, .int j5, .ref hW])), (hW, .inl (cJ, 39, .inr (.inl tk)))])
abbrev qc_t_X10_wordKind (dC : Nat → ClassId) (dI : Nat → Nat → Nat) (cB cI cJ cZ : ClassId) (h0 hW : Nat) (tk : Nat → Int64) (y0 y1 y2 y3 : Value) (j4 j5 : Int32) (v : Int64) (A : Nat → Prop) : Array Value → State → Outcome → State → Prop := va_Qi (fun (r : Int32) (u : Unit) => match u with | _ => r = wkF tk v 39 0) (fun (u : Unit) t_ => match u with | _ => va_P (dC, dI) vwCl [(h0, .inr (11, [y0, y1, y2, y3, .int j4, .int j5, .ref hW])), (hW, .inl (cJ, 39, .inr (.inl tk)))] t_.heap ∧ va_K (dC, dI) vwCl [(cB, .byte), (cI, .int), (cJ, .long), (cZ, .boolean)] t_ ∧ va_D A [(h0, .inr (11, [y0, y1, y2, y3, .int j4, .int j5, .ref hW])), (hW, .inl (cJ, 39, .inr (.inl tk)))]) A
set_option maxHeartbeats 4000000 in
set_option maxRecDepth 100000 in
theorem t_X10_wordKind (l : Launch) (dC : Nat → ClassId) (dI : Nat → Nat → Nat) (sz : Nat) (cB cI cJ cZ : ClassId) (h0 hW : Nat) (tk : Nat → Int64) (y0 y1 y2 y3 : Value) (j4 j5 : Int32) (v : Int64)  : Met l yX10_wordKind (wsOf yX10_wordKind cX10_wordKind 4 (some .int)) ({ frames := 0, cells := 0, slots := 0, locals := 0 }) (pc_t_X10_wordKind dC dI sz cB cI cJ cZ h0 hW tk y0 y1 y2 y3 j4 j5 v) (qc_t_X10_wordKind dC dI cB cI cJ cZ h0 hW tk y0 y1 y2 y3 j4 j5 v (va_A (cs_t_X10_wordKind cB cI cJ cZ h0 hW tk y0 y1 y2 y3 j4 j5 v) sz)) 0 0 (va_A (cs_t_X10_wordKind cB cI cJ cZ h0 hW tk y0 y1 y2 y3 j4 j5 v) sz) := by
  refine Met.ofW (cc := cX10_wordKind) (maxL := 4) (ret := (some .int)) (by decide) rfl ?_
  intro p e s m args below meth c s₁ B hml hv
  obtain ⟨rfl, hsz, hP, hK, hD0⟩ := hv
  have hx := B.exec
  have hb := B.bytes
  have hr := B.returns
  have hts := atoms_spec (ws := (wsOf yX10_wordKind cX10_wordKind 4 (some .int))) B.pre
  have hown : s.vm.findClass RX10 = some m.cls := findClass_of_methodNamed B.named
  have hlocks := B.notSynchronized
  subst hsz
  have hD := hD0.self (sz := s.heap.size)
  generalize hAe : va_A (cs_t_X10_wordKind cB cI cJ cZ h0 hW tk y0 y1 y2 y3 j4 j5 v) s.heap.size = A at hD ⊢
  have hA : ∀ q : Nat, s.heap.size ≤ q → A q := fun q h => by rw [← hAe]; exact Or.inr h
  have hS : va_S A s.heap s.heap [] := va_S.rf
  have hP : va_P (dC, dI) vwCl [(h0, .inr (11, [y0, y1, y2, y3, .int j4, .int j5, .ref hW])), (hW, .inl (cJ, 39, .inr (.inl tk)))] s.heap := hP
  have hl := lv_entry ([.ref h0, .long v]) (n := 4) (Nat.le_of_ble_eq_true rfl)
  rw [lg_entry_eq]
  generalize (lg_sl ([.ref h0, .long v]) ++ List.replicate (4 - (lg_sl ([.ref h0, .long v])).length) Slot.unset).toArray = ls at hl ⊢
  have hl : lv_has ls 4 [(0, .ref h0), (1, .long v)] := hl
  refine lv_iconst (v := 0) hx hb dX10_wordKind_0 (by decide) ?_
  refine lv_istore_n (lv' := [(3, .int 0), (0, .ref h0), (1, .long v)]) hx hb dX10_wordKind_1 rfl hl (by decide) rfl (fun ls hl => ?_)
  have lp_2 : ∀ (n_ : Nat) (i : Nat), i ≤ 39 → wkF tk v 39 0 = wkF tk v (39 - i) i → 39 - i < n_ → ∀ (H : Heap) (locs : List Loc) (ls : Array Slot), va_P (dC, dI) vwCl [(h0, .inr (11, [y0, y1, y2, y3, .int j4, .int j5, .ref hW])), (hW, .inl (cJ, 39, .inr (.inl tk)))] H → va_D A [(h0, .inr (11, [y0, y1, y2, y3, .int j4, .int j5, .ref hW])), (hW, .inl (cJ, 39, .inr (.inl tk)))] → va_S A s.heap H locs → lv_has ls 4 [(3, .int (nI i)), (0, .ref h0), (1, .long v)] → W p l e (headSpec (wsOf yX10_wordKind cX10_wordKind 4 (some .int)) ({ frames := 0, cells := 0, slots := 0, locals := 0 })).room s m ([.ref h0, .long v] : List Value).toArray below meth c H locs 0 0 (MQ below (qc_t_X10_wordKind dC dI cB cI cJ cZ h0 hW tk y0 y1 y2 y3 j4 j5 v A) ([.ref h0, .long v] : List Value).toArray s 0 0 A) (F0 m 2 ls []) := by
    intro n_
    induction n_ with
    | zero => intro i hi hin hm; exact absurd hm (Nat.not_lt_zero _)
    | succ n_ ih_2 =>
      intro i hi hin hm H locs ls hP hD hS hl
      refine lv_iload_n hx hb dX10_wordKind_2 rfl (lv_at hl 0 rfl) ?_
      refine lv_aload_n hx hb dX10_wordKind_3 rfl (lv_at hl 1 rfl) ?_
      refine va_get (D := (dC, dI)) (ci := 11) (v := .ref hW) (C := RX10) (T := TX10) (N := 7) hx hb hts (fun w h => List.mem_cons_of_mem _ (uG_X10 w h)) hown hK hP 0 rfl rfl 6 (by decide) (hts _ (List.mem_cons_of_mem _ kw_327)) (fun _ h9 => h9) rfl dX10_wordKind_4 ?_
      refine va_alen (v := 39) hx hb hK hP 1 2 rfl rfl rfl dX10_wordKind_7 ?_
      refine lv_icmp_ge (tgt := 30) hx hb dX10_wordKind_8 (by decide) (fun c_1 => ?_) (fun c_1 => ?_)
      · skip
        have c_1 : 39 ≤ i := (nI_leI (a := 39) (b := i) (by omega) (by omega)).mp c_1
        refine lv_bipush (v := 39) hx hb dX10_wordKind_30 (by decide) ?_
        have hP9 := hP.sub (ws' := [(h0, .inr (11, [y0, y1, y2, y3, .int j4, .int j5, .ref hW])), (hW, .inl (cJ, 39, .inr (.inl tk)))]) [0, 1] rfl
        have hD9 := hD.sub (ws' := [(h0, .inr (11, [y0, y1, y2, y3, .int j4, .int j5, .ref hW])), (hW, .inl (cJ, 39, .inr (.inl tk)))]) [0, 1] (by decide) rfl
        have hK9 := hK.sub (tys' := [(cB, .byte), (cI, .int), (cJ, .long), (cZ, .boolean)]) [0, 1, 2, 3] rfl
        exact W.iret (v := 39) hx hb hr (fun t_ ht hW => ⟨⟨39, (), rfl, (by rw [hin, show 39 - i = 0 by omega]; rfl), by rw [ht]; exact hP9, va_K.moved hW.alike hK9, hD9⟩, hS.F ht⟩) hS.2.2 dX10_wordKind_32
      · skip
        have c_1 : ¬ (39 ≤ i) := fun h => c_1 ((nI_leI (a := 39) (b := i) (by omega) (by omega)).mpr h)
        refine lv_aload_n hx hb dX10_wordKind_11 rfl (lv_at hl 1 rfl) ?_
        refine va_get (D := (dC, dI)) (ci := 11) (v := .ref hW) (C := RX10) (T := TX10) (N := 7) hx hb hts (fun w h => List.mem_cons_of_mem _ (uG_X10 w h)) hown hK hP 0 rfl rfl 6 (by decide) (hts _ (List.mem_cons_of_mem _ kw_327)) (fun _ h9 => h9) rfl dX10_wordKind_12 ?_
        refine lv_iload_n hx hb dX10_wordKind_15 rfl (lv_at hl 0 rfl) ?_
        refine va_lald hx hb hK hP 1 2 rfl rfl (i := (nI i)) (vp_in_nI (n := i) (N := 39) (by omega) (by omega)) dX10_wordKind_16 ?_
        refine lv_topl (fun x_2 ex_2 => ?_)
        have ex_2 : x_2 = tk i := ex_2.trans (congrArg tk (nI_clamp (n := i) (by omega)))
        subst ex_2
        refine lv_lload_n hx hb dX10_wordKind_17 rfl (lv_at hl 2 rfl) ?_
        refine W.lcmp hx hb dX10_wordKind_18 ?_
        refine lv_if_ne (tgt := 24) hx hb dX10_wordKind_19 (by decide) (fun c_3 => ?_) (fun c_3 => ?_)
        · skip
          have c_3 : ¬ ((tk i) = v) := fun h => c_3 ((lg_cmp_eq (tk i) v).mpr h)
          refine lv_iinc (v := nI (i + 1)) (lv' := [(3, .int (nI (i + 1))), (0, .ref h0), (1, .long v)]) hx hb dX10_wordKind_24 hl (k := 0) rfl (nI_add i 1) (by decide) rfl (fun ls hl => ?_)
          refine lv_goto (tgt := 2) hx hb dX10_wordKind_27 (by decide) ?_
          exact ih_2 (i + 1) (by omega) (hin.trans (wkF_n (by omega) c_3)) (by omega) _ _ _ (hP.sub [0, 1] rfl) (hD.sub [0, 1] (by decide) rfl) hS (lv_sub hl [0, 1, 2] rfl)
        · skip
          have c_3 : (tk i) = v := (lg_cmp_eq (tk i) v).mp c_3
          refine lv_iload_n hx hb dX10_wordKind_22 rfl (lv_at hl 0 rfl) ?_
          have hP9 := hP.sub (ws' := [(h0, .inr (11, [y0, y1, y2, y3, .int j4, .int j5, .ref hW])), (hW, .inl (cJ, 39, .inr (.inl tk)))]) [0, 1] rfl
          have hD9 := hD.sub (ws' := [(h0, .inr (11, [y0, y1, y2, y3, .int j4, .int j5, .ref hW])), (hW, .inl (cJ, 39, .inr (.inl tk)))]) [0, 1] (by decide) rfl
          have hK9 := hK.sub (tys' := [(cB, .byte), (cI, .int), (cJ, .long), (cZ, .boolean)]) [0, 1, 2, 3] rfl
          exact W.iret (v := (nI i)) hx hb hr (fun t_ ht hW => ⟨⟨(nI i), (), rfl, (hin.trans (wkF_y (by omega) c_3)).symm, by rw [ht]; exact hP9, va_K.moved hW.alike hK9, hD9⟩, hS.F ht⟩) hS.2.2 dX10_wordKind_23
  exact lp_2 _ 0 (Nat.zero_le _) rfl (Nat.lt_succ_self _) _ _ _ (hP.sub [0, 1] rfl) (hD.sub [0, 1] (by decide) rfl) hS (lv_sub hl [0, 1, 2] rfl)
theorem dX10_longerSign_0 : decode cX10_longerSign 0 = .ok (.iload_n 0, 1) := by decide +kernel
theorem dX10_longerSign_1 : decode cX10_longerSign 1 = .ok (.bipush 51, 2) := by decide +kernel
theorem dX10_longerSign_3 : decode cX10_longerSign 3 = .ok (.if_icmp .ne 12, 3) := by decide +kernel
theorem dX10_longerSign_6 : decode cX10_longerSign 6 = .ok (.iload_n 1, 1) := by decide +kernel
theorem dX10_longerSign_7 : decode cX10_longerSign 7 = .ok (.bipush 62, 2) := by decide +kernel
theorem dX10_longerSign_9 : decode cX10_longerSign 9 = .ok (.if_icmp .ne 6, 3) := by decide +kernel
theorem dX10_longerSign_12 : decode cX10_longerSign 12 = .ok (.bipush 53, 2) := by decide +kernel
theorem dX10_longerSign_14 : decode cX10_longerSign 14 = .ok (.ireturn, 1) := by decide +kernel
theorem dX10_longerSign_15 : decode cX10_longerSign 15 = .ok (.iload_n 0, 1) := by decide +kernel
theorem dX10_longerSign_16 : decode cX10_longerSign 16 = .ok (.bipush 51, 2) := by decide +kernel
theorem dX10_longerSign_18 : decode cX10_longerSign 18 = .ok (.if_icmp .ne 12, 3) := by decide +kernel
theorem dX10_longerSign_21 : decode cX10_longerSign 21 = .ok (.iload_n 1, 1) := by decide +kernel
theorem dX10_longerSign_22 : decode cX10_longerSign 22 = .ok (.bipush 61, 2) := by decide +kernel
theorem dX10_longerSign_24 : decode cX10_longerSign 24 = .ok (.if_icmp .ne 6, 3) := by decide +kernel
theorem dX10_longerSign_27 : decode cX10_longerSign 27 = .ok (.bipush 54, 2) := by decide +kernel
theorem dX10_longerSign_29 : decode cX10_longerSign 29 = .ok (.ireturn, 1) := by decide +kernel
theorem dX10_longerSign_30 : decode cX10_longerSign 30 = .ok (.iload_n 0, 1) := by decide +kernel
theorem dX10_longerSign_31 : decode cX10_longerSign 31 = .ok (.bipush 52, 2) := by decide +kernel
theorem dX10_longerSign_33 : decode cX10_longerSign 33 = .ok (.if_icmp .ne 14, 3) := by decide +kernel
theorem dX10_longerSign_36 : decode cX10_longerSign 36 = .ok (.iload_n 1, 1) := by decide +kernel
theorem dX10_longerSign_37 : decode cX10_longerSign 37 = .ok (.bipush 61, 2) := by decide +kernel
theorem dX10_longerSign_39 : decode cX10_longerSign 39 = .ok (.if_icmp .ne 8, 3) := by decide +kernel
theorem dX10_longerSign_42 : decode cX10_longerSign 42 = .ok (.bipush 55, 2) := by decide +kernel
theorem dX10_longerSign_44 : decode cX10_longerSign 44 = .ok (.goto 4, 3) := by decide +kernel
theorem dX10_longerSign_47 : decode cX10_longerSign 47 = .ok (.iload_n 0, 1) := by decide +kernel
theorem dX10_longerSign_48 : decode cX10_longerSign 48 = .ok (.ireturn, 1) := by decide +kernel
abbrev cs_t_longer_lt (cB cI cJ cZ : ClassId) (x : Int32) : va_W := []
abbrev pc_t_longer_lt (dC : Nat → ClassId) (dI : Nat → Nat → Nat) (sz : Nat) (cB cI cJ cZ : ClassId) (x : Int32) : Array Value → State → Prop := va_Pc [.int 51, .int x] (fun U => U.heap.size = sz ∧ va_P (dC, dI) vwCl [] U.heap ∧ va_K (dC, dI) vwCl [(cB, .byte), (cI, .int), (cJ, .long), (cZ, .boolean)] U ∧ va_D (fun _ => True) [])
abbrev qc_t_longer_lt (dC : Nat → ClassId) (dI : Nat → Nat → Nat) (cB cI cJ cZ : ClassId) (x : Int32) (A : Nat → Prop) : Array Value → State → Outcome → State → Prop := va_Qi (fun (r : Int32) (u : Unit) => match u with | _ => r = lsI 51 x) (fun (u : Unit) t_ => match u with | _ => va_P (dC, dI) vwCl [] t_.heap ∧ va_K (dC, dI) vwCl [(cB, .byte), (cI, .int), (cJ, .long), (cZ, .boolean)] t_ ∧ va_D A []) A
set_option maxHeartbeats 4000000 in
set_option maxRecDepth 100000 in
theorem t_longer_lt (l : Launch) (dC : Nat → ClassId) (dI : Nat → Nat → Nat) (sz : Nat) (cB cI cJ cZ : ClassId) (x : Int32)  : Met l yX10_longerSign (wsOf yX10_longerSign cX10_longerSign 2 (some .int)) ({ frames := 0, cells := 0, slots := 0, locals := 0 }) (pc_t_longer_lt dC dI sz cB cI cJ cZ x) (qc_t_longer_lt dC dI cB cI cJ cZ x (va_A (cs_t_longer_lt cB cI cJ cZ x) sz)) 0 0 (va_A (cs_t_longer_lt cB cI cJ cZ x) sz) := by
  refine Met.ofW (cc := cX10_longerSign) (maxL := 2) (ret := (some .int)) (by decide) rfl ?_
  intro p e s m args below meth c s₁ B hml hv
  obtain ⟨rfl, hsz, hP, hK, hD0⟩ := hv
  have hx := B.exec
  have hb := B.bytes
  have hr := B.returns
  have hts := atoms_spec (ws := (wsOf yX10_longerSign cX10_longerSign 2 (some .int))) B.pre
  have hown : s.vm.findClass RX10 = some m.cls := findClass_of_methodNamed B.named
  have hlocks := B.notSynchronized
  subst hsz
  have hD := hD0.self (sz := s.heap.size)
  generalize hAe : va_A (cs_t_longer_lt cB cI cJ cZ x) s.heap.size = A at hD ⊢
  have hA : ∀ q : Nat, s.heap.size ≤ q → A q := fun q h => by rw [← hAe]; exact Or.inr h
  have hS : va_S A s.heap s.heap [] := va_S.rf
  have hP : va_P (dC, dI) vwCl [] s.heap := hP
  have hl := lv_entry ([.int 51, .int x]) (n := 2) (Nat.le_of_ble_eq_true rfl)
  rw [lg_entry_eq]
  generalize (lg_sl ([.int 51, .int x]) ++ List.replicate (2 - (lg_sl ([.int 51, .int x])).length) Slot.unset).toArray = ls at hl ⊢
  have hl : lv_has ls 2 [(0, .int 51), (1, .int x)] := hl
  refine lv_iload_n hx hb dX10_longerSign_0 rfl (lv_at hl 0 rfl) ?_
  refine lv_bipush (v := 51) hx hb dX10_longerSign_1 (by decide) ?_
  refine lv_icmp_ne (tgt := 15) hx hb dX10_longerSign_3 (by decide) (fun c_1 => ?_) (fun c_1 => ?_)
  · skip
    exact absurd c_1 (by decide)
  · skip
    refine lv_iload_n hx hb dX10_longerSign_6 rfl (lv_at hl 1 rfl) ?_
    refine lv_bipush (v := 62) hx hb dX10_longerSign_7 (by decide) ?_
    refine lv_icmp_ne (tgt := 15) hx hb dX10_longerSign_9 (by decide) (fun c_2 => ?_) (fun c_2 => ?_)
    · skip
      refine lv_iload_n hx hb dX10_longerSign_15 rfl (lv_at hl 0 rfl) ?_
      refine lv_bipush (v := 51) hx hb dX10_longerSign_16 (by decide) ?_
      refine lv_icmp_ne (tgt := 30) hx hb dX10_longerSign_18 (by decide) (fun c_3 => ?_) (fun c_3 => ?_)
      · skip
        exact absurd c_3 (by decide)
      · skip
        refine lv_iload_n hx hb dX10_longerSign_21 rfl (lv_at hl 1 rfl) ?_
        refine lv_bipush (v := 61) hx hb dX10_longerSign_22 (by decide) ?_
        refine lv_icmp_ne (tgt := 30) hx hb dX10_longerSign_24 (by decide) (fun c_4 => ?_) (fun c_4 => ?_)
        · skip
          refine lv_iload_n hx hb dX10_longerSign_30 rfl (lv_at hl 0 rfl) ?_
          refine lv_bipush (v := 52) hx hb dX10_longerSign_31 (by decide) ?_
          refine lv_icmp_ne (tgt := 47) hx hb dX10_longerSign_33 (by decide) (fun c_5 => ?_) (fun c_5 => ?_)
          · skip
            refine lv_iload_n hx hb dX10_longerSign_47 rfl (lv_at hl 0 rfl) ?_
            have hP9 := hP.sub (ws' := []) [] rfl
            have hD9 := hD.sub (ws' := []) [] (by decide) rfl
            have hK9 := hK.sub (tys' := [(cB, .byte), (cI, .int), (cJ, .long), (cZ, .boolean)]) [0, 1, 2, 3] rfl
            exact W.iret (v := 51) hx hb hr (fun t_ ht hW => ⟨⟨51, (), rfl, by show _ = (if x = 62 then 53 else if x = 61 then 54 else 51); rw [if_neg c_2, if_neg c_4], by rw [ht]; exact hP9, va_K.moved hW.alike hK9, hD9⟩, hS.F ht⟩) hS.2.2 dX10_longerSign_48
          · skip
            exact absurd c_5 (by decide)
        · skip
          refine lv_bipush (v := 54) hx hb dX10_longerSign_27 (by decide) ?_
          have hP9 := hP.sub (ws' := []) [] rfl
          have hD9 := hD.sub (ws' := []) [] (by decide) rfl
          have hK9 := hK.sub (tys' := [(cB, .byte), (cI, .int), (cJ, .long), (cZ, .boolean)]) [0, 1, 2, 3] rfl
          exact W.iret (v := 54) hx hb hr (fun t_ ht hW => ⟨⟨54, (), rfl, by show _ = (if x = 62 then 53 else if x = 61 then 54 else 51); rw [if_neg c_2, if_pos c_4], by rw [ht]; exact hP9, va_K.moved hW.alike hK9, hD9⟩, hS.F ht⟩) hS.2.2 dX10_longerSign_29
    · skip
      refine lv_bipush (v := 53) hx hb dX10_longerSign_12 (by decide) ?_
      have hP9 := hP.sub (ws' := []) [] rfl
      have hD9 := hD.sub (ws' := []) [] (by decide) rfl
      have hK9 := hK.sub (tys' := [(cB, .byte), (cI, .int), (cJ, .long), (cZ, .boolean)]) [0, 1, 2, 3] rfl
      exact W.iret (v := 53) hx hb hr (fun t_ ht hW => ⟨⟨53, (), rfl, by show _ = (if x = 62 then 53 else if x = 61 then 54 else 51); rw [if_pos c_2], by rw [ht]; exact hP9, va_K.moved hW.alike hK9, hD9⟩, hS.F ht⟩) hS.2.2 dX10_longerSign_14
abbrev cs_t_longer_gt (cB cI cJ cZ : ClassId) (x : Int32) : va_W := []
abbrev pc_t_longer_gt (dC : Nat → ClassId) (dI : Nat → Nat → Nat) (sz : Nat) (cB cI cJ cZ : ClassId) (x : Int32) : Array Value → State → Prop := va_Pc [.int 52, .int x] (fun U => U.heap.size = sz ∧ va_P (dC, dI) vwCl [] U.heap ∧ va_K (dC, dI) vwCl [(cB, .byte), (cI, .int), (cJ, .long), (cZ, .boolean)] U ∧ va_D (fun _ => True) [])
abbrev qc_t_longer_gt (dC : Nat → ClassId) (dI : Nat → Nat → Nat) (cB cI cJ cZ : ClassId) (x : Int32) (A : Nat → Prop) : Array Value → State → Outcome → State → Prop := va_Qi (fun (r : Int32) (u : Unit) => match u with | _ => r = lsI 52 x) (fun (u : Unit) t_ => match u with | _ => va_P (dC, dI) vwCl [] t_.heap ∧ va_K (dC, dI) vwCl [(cB, .byte), (cI, .int), (cJ, .long), (cZ, .boolean)] t_ ∧ va_D A []) A
set_option maxHeartbeats 4000000 in
set_option maxRecDepth 100000 in
theorem t_longer_gt (l : Launch) (dC : Nat → ClassId) (dI : Nat → Nat → Nat) (sz : Nat) (cB cI cJ cZ : ClassId) (x : Int32)  : Met l yX10_longerSign (wsOf yX10_longerSign cX10_longerSign 2 (some .int)) ({ frames := 0, cells := 0, slots := 0, locals := 0 }) (pc_t_longer_gt dC dI sz cB cI cJ cZ x) (qc_t_longer_gt dC dI cB cI cJ cZ x (va_A (cs_t_longer_gt cB cI cJ cZ x) sz)) 0 0 (va_A (cs_t_longer_gt cB cI cJ cZ x) sz) := by
  refine Met.ofW (cc := cX10_longerSign) (maxL := 2) (ret := (some .int)) (by decide) rfl ?_
  intro p e s m args below meth c s₁ B hml hv
  obtain ⟨rfl, hsz, hP, hK, hD0⟩ := hv
  have hx := B.exec
  have hb := B.bytes
  have hr := B.returns
  have hts := atoms_spec (ws := (wsOf yX10_longerSign cX10_longerSign 2 (some .int))) B.pre
  have hown : s.vm.findClass RX10 = some m.cls := findClass_of_methodNamed B.named
  have hlocks := B.notSynchronized
  subst hsz
  have hD := hD0.self (sz := s.heap.size)
  generalize hAe : va_A (cs_t_longer_gt cB cI cJ cZ x) s.heap.size = A at hD ⊢
  have hA : ∀ q : Nat, s.heap.size ≤ q → A q := fun q h => by rw [← hAe]; exact Or.inr h
  have hS : va_S A s.heap s.heap [] := va_S.rf
  have hP : va_P (dC, dI) vwCl [] s.heap := hP
  have hl := lv_entry ([.int 52, .int x]) (n := 2) (Nat.le_of_ble_eq_true rfl)
  rw [lg_entry_eq]
  generalize (lg_sl ([.int 52, .int x]) ++ List.replicate (2 - (lg_sl ([.int 52, .int x])).length) Slot.unset).toArray = ls at hl ⊢
  have hl : lv_has ls 2 [(0, .int 52), (1, .int x)] := hl
  refine lv_iload_n hx hb dX10_longerSign_0 rfl (lv_at hl 0 rfl) ?_
  refine lv_bipush (v := 51) hx hb dX10_longerSign_1 (by decide) ?_
  refine lv_icmp_ne (tgt := 15) hx hb dX10_longerSign_3 (by decide) (fun c_1 => ?_) (fun c_1 => ?_)
  · skip
    refine lv_iload_n hx hb dX10_longerSign_15 rfl (lv_at hl 0 rfl) ?_
    refine lv_bipush (v := 51) hx hb dX10_longerSign_16 (by decide) ?_
    refine lv_icmp_ne (tgt := 30) hx hb dX10_longerSign_18 (by decide) (fun c_2 => ?_) (fun c_2 => ?_)
    · skip
      refine lv_iload_n hx hb dX10_longerSign_30 rfl (lv_at hl 0 rfl) ?_
      refine lv_bipush (v := 52) hx hb dX10_longerSign_31 (by decide) ?_
      refine lv_icmp_ne (tgt := 47) hx hb dX10_longerSign_33 (by decide) (fun c_3 => ?_) (fun c_3 => ?_)
      · skip
        exact absurd c_3 (by decide)
      · skip
        refine lv_iload_n hx hb dX10_longerSign_36 rfl (lv_at hl 1 rfl) ?_
        refine lv_bipush (v := 61) hx hb dX10_longerSign_37 (by decide) ?_
        refine lv_icmp_ne (tgt := 47) hx hb dX10_longerSign_39 (by decide) (fun c_4 => ?_) (fun c_4 => ?_)
        · skip
          refine lv_iload_n hx hb dX10_longerSign_47 rfl (lv_at hl 0 rfl) ?_
          have hP9 := hP.sub (ws' := []) [] rfl
          have hD9 := hD.sub (ws' := []) [] (by decide) rfl
          have hK9 := hK.sub (tys' := [(cB, .byte), (cI, .int), (cJ, .long), (cZ, .boolean)]) [0, 1, 2, 3] rfl
          exact W.iret (v := 52) hx hb hr (fun t_ ht hW => ⟨⟨52, (), rfl, by show _ = (if x = 61 then 55 else 52); rw [if_neg c_4], by rw [ht]; exact hP9, va_K.moved hW.alike hK9, hD9⟩, hS.F ht⟩) hS.2.2 dX10_longerSign_48
        · skip
          refine lv_bipush (v := 55) hx hb dX10_longerSign_42 (by decide) ?_
          refine lv_goto (tgt := 48) hx hb dX10_longerSign_44 (by decide) ?_
          have hP9 := hP.sub (ws' := []) [] rfl
          have hD9 := hD.sub (ws' := []) [] (by decide) rfl
          have hK9 := hK.sub (tys' := [(cB, .byte), (cI, .int), (cJ, .long), (cZ, .boolean)]) [0, 1, 2, 3] rfl
          exact W.iret (v := 55) hx hb hr (fun t_ ht hW => ⟨⟨55, (), rfl, by show _ = (if x = 61 then 55 else 52); rw [if_pos c_4], by rw [ht]; exact hP9, va_K.moved hW.alike hK9, hD9⟩, hS.F ht⟩) hS.2.2 dX10_longerSign_48
    · skip
      exact absurd c_2 (by decide)
  · skip
    exact absurd c_1 (by decide)
abbrev cs_t_longer_o (cB cI cJ cZ : ClassId) (k x : Int32) : va_W := []
abbrev pc_t_longer_o (dC : Nat → ClassId) (dI : Nat → Nat → Nat) (sz : Nat) (cB cI cJ cZ : ClassId) (k x : Int32) : Array Value → State → Prop := va_Pc [.int k, .int x] (fun U => U.heap.size = sz ∧ va_P (dC, dI) vwCl [] U.heap ∧ va_K (dC, dI) vwCl [(cB, .byte), (cI, .int), (cJ, .long), (cZ, .boolean)] U ∧ va_D (fun _ => True) [])
abbrev qc_t_longer_o (dC : Nat → ClassId) (dI : Nat → Nat → Nat) (cB cI cJ cZ : ClassId) (k x : Int32) (A : Nat → Prop) : Array Value → State → Outcome → State → Prop := va_Qi (fun (r : Int32) (u : Unit) => match u with | _ => r = lsI k x) (fun (u : Unit) t_ => match u with | _ => va_P (dC, dI) vwCl [] t_.heap ∧ va_K (dC, dI) vwCl [(cB, .byte), (cI, .int), (cJ, .long), (cZ, .boolean)] t_ ∧ va_D A []) A
set_option maxHeartbeats 4000000 in
set_option maxRecDepth 100000 in
theorem t_longer_o (l : Launch) (dC : Nat → ClassId) (dI : Nat → Nat → Nat) (sz : Nat) (cB cI cJ cZ : ClassId) (k x : Int32) (h1 : ¬ k = 51) (h2 : ¬ k = 52) : Met l yX10_longerSign (wsOf yX10_longerSign cX10_longerSign 2 (some .int)) ({ frames := 0, cells := 0, slots := 0, locals := 0 }) (pc_t_longer_o dC dI sz cB cI cJ cZ k x) (qc_t_longer_o dC dI cB cI cJ cZ k x (va_A (cs_t_longer_o cB cI cJ cZ k x) sz)) 0 0 (va_A (cs_t_longer_o cB cI cJ cZ k x) sz) := by
  refine Met.ofW (cc := cX10_longerSign) (maxL := 2) (ret := (some .int)) (by decide) rfl ?_
  intro p e s m args below meth c s₁ B hml hv
  obtain ⟨rfl, hsz, hP, hK, hD0⟩ := hv
  have hx := B.exec
  have hb := B.bytes
  have hr := B.returns
  have hts := atoms_spec (ws := (wsOf yX10_longerSign cX10_longerSign 2 (some .int))) B.pre
  have hown : s.vm.findClass RX10 = some m.cls := findClass_of_methodNamed B.named
  have hlocks := B.notSynchronized
  subst hsz
  have hD := hD0.self (sz := s.heap.size)
  generalize hAe : va_A (cs_t_longer_o cB cI cJ cZ k x) s.heap.size = A at hD ⊢
  have hA : ∀ q : Nat, s.heap.size ≤ q → A q := fun q h => by rw [← hAe]; exact Or.inr h
  have hS : va_S A s.heap s.heap [] := va_S.rf
  have hP : va_P (dC, dI) vwCl [] s.heap := hP
  have hl := lv_entry ([.int k, .int x]) (n := 2) (Nat.le_of_ble_eq_true rfl)
  rw [lg_entry_eq]
  generalize (lg_sl ([.int k, .int x]) ++ List.replicate (2 - (lg_sl ([.int k, .int x])).length) Slot.unset).toArray = ls at hl ⊢
  have hl : lv_has ls 2 [(0, .int k), (1, .int x)] := hl
  refine lv_iload_n hx hb dX10_longerSign_0 rfl (lv_at hl 0 rfl) ?_
  refine lv_bipush (v := 51) hx hb dX10_longerSign_1 (by decide) ?_
  refine lv_icmp_ne (tgt := 15) hx hb dX10_longerSign_3 (by decide) (fun c_1 => ?_) (fun c_1 => ?_)
  · skip
    refine lv_iload_n hx hb dX10_longerSign_15 rfl (lv_at hl 0 rfl) ?_
    refine lv_bipush (v := 51) hx hb dX10_longerSign_16 (by decide) ?_
    refine lv_icmp_ne (tgt := 30) hx hb dX10_longerSign_18 (by decide) (fun c_2 => ?_) (fun c_2 => ?_)
    · skip
      refine lv_iload_n hx hb dX10_longerSign_30 rfl (lv_at hl 0 rfl) ?_
      refine lv_bipush (v := 52) hx hb dX10_longerSign_31 (by decide) ?_
      refine lv_icmp_ne (tgt := 47) hx hb dX10_longerSign_33 (by decide) (fun c_3 => ?_) (fun c_3 => ?_)
      · skip
        refine lv_iload_n hx hb dX10_longerSign_47 rfl (lv_at hl 0 rfl) ?_
        have hP9 := hP.sub (ws' := []) [] rfl
        have hD9 := hD.sub (ws' := []) [] (by decide) rfl
        have hK9 := hK.sub (tys' := [(cB, .byte), (cI, .int), (cJ, .long), (cZ, .boolean)]) [0, 1, 2, 3] rfl
        exact W.iret (v := k) hx hb hr (fun t_ ht hW => ⟨⟨k, (), rfl, by unfold lsI; rw [if_neg h1, if_neg h2], by rw [ht]; exact hP9, va_K.moved hW.alike hK9, hD9⟩, hS.F ht⟩) hS.2.2 dX10_longerSign_48
      · skip
        exact absurd c_3 h2
    · skip
      exact absurd c_2 h1
  · skip
    exact absurd c_1 h1

