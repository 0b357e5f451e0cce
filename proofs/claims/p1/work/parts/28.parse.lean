def kdF (fl : Int32) (kf : Nat → Int32) (x : Nat) : Int32 := if fl = 0 then kf x else 57
def ltI (x : Int32) : Int32 := if x < 97 then 0 else if 122 < x then 0 else 1
def dgI (x : Int32) : Int32 := if x < 48 then 0 else if 57 < x then 0 else 1
def bkI (x : Int32) : Int32 := if x = 32 then 1 else if x = 9 then 1 else if x = 13 then 1 else if x = 10 then 1 else 0
def lcd (x : Int32) : Int32 := if dgI x = 0 then (x - 97) + 1 else (x - 48) + 27
def lsI (k x : Int32) : Int32 := if k = 51 then (if x = 62 then 53 else if x = 61 then 54 else k) else if k = 52 then (if x = 61 then 55 else k) else k
def wkF (tk : Nat → Int64) (v : Int64) : Nat → Nat → Int32
  | 0, _ => 39
  | n + 1, i => if tk i = v then nI i else wkF tk v n (i + 1)
theorem wkF_n {tk : Nat → Int64} {v : Int64} {w i : Nat} (hi : i < w) (h : ¬ tk i = v) : wkF tk v (w - i) i = wkF tk v (w - (i + 1)) (i + 1) := by
  rw [show w - i = (w - (i + 1)) + 1 by omega]
  exact if_neg h
theorem wkF_y {tk : Nat → Int64} {v : Int64} {w i : Nat} (hi : i < w) (h : tk i = v) : wkF tk v (w - i) i = nI i := by
  rw [show w - i = (w - (i + 1)) + 1 by omega]
  exact if_pos h
theorem dX9_kind_0 : decode cX9_kind 0 = .ok (.aload_n 0, 1) := by decide +kernel
theorem dX9_kind_1 : decode cX9_kind 1 = .ok (.getfield 93, 3) := by decide +kernel
theorem dX9_kind_4 : decode cX9_kind 4 = .ok (.ifCond .ne 18, 3) := by decide +kernel
theorem dX9_kind_7 : decode cX9_kind 7 = .ok (.aload_n 0, 1) := by decide +kernel
theorem dX9_kind_8 : decode cX9_kind 8 = .ok (.getfield 99, 3) := by decide +kernel
theorem dX9_kind_11 : decode cX9_kind 11 = .ok (.aload_n 0, 1) := by decide +kernel
theorem dX9_kind_12 : decode cX9_kind 12 = .ok (.getfield 9, 3) := by decide +kernel
theorem dX9_kind_15 : decode cX9_kind 15 = .ok (.getfield 102, 3) := by decide +kernel
theorem dX9_kind_18 : decode cX9_kind 18 = .ok (.arraylength, 1) := by decide +kernel
theorem dX9_kind_19 : decode cX9_kind 19 = .ok (.if_icmp .lt 8, 3) := by decide +kernel
theorem dX9_kind_22 : decode cX9_kind 22 = .ok (.bipush 57, 2) := by decide +kernel
theorem dX9_kind_24 : decode cX9_kind 24 = .ok (.goto 15, 3) := by decide +kernel
theorem dX9_kind_27 : decode cX9_kind 27 = .ok (.aload_n 0, 1) := by decide +kernel
theorem dX9_kind_28 : decode cX9_kind 28 = .ok (.getfield 9, 3) := by decide +kernel
theorem dX9_kind_31 : decode cX9_kind 31 = .ok (.getfield 102, 3) := by decide +kernel
theorem dX9_kind_34 : decode cX9_kind 34 = .ok (.aload_n 0, 1) := by decide +kernel
theorem dX9_kind_35 : decode cX9_kind 35 = .ok (.getfield 99, 3) := by decide +kernel
theorem dX9_kind_38 : decode cX9_kind 38 = .ok (.iaload, 1) := by decide +kernel
theorem dX9_kind_39 : decode cX9_kind 39 = .ok (.ireturn, 1) := by decide +kernel
abbrev cs_t_X9_kind (cB cI cJ cZ : ClassId) (h0 hQ hKi hPl hNu : Nat) (kf pf : Nat → Int32) (vf : Nat → Int64) (fl pl : Int32) (w2 w3 : Value) (i4 i5 : Int32) (w6 : Value) (x1 z1 : Nat) (w10 : Value) (i11 : Int32) (y3 : Value) (j4 j5 : Int32) (y6 : Value) : va_W := [(h0, .inr (10, [.int fl, .int pl, w2, w3, .int i4, .int i5, w6, .ref hQ, .int (nI x1), .int (nI z1), w10, .int i11])), (hQ, .inr (11, [.ref hKi, .ref hPl, .ref hNu, y3, .int j4, .int j5, y6])), (hKi, .inl (cI, 2001, .inl kf)), (hPl, .inl (cI, 2001, .inl pf)), (hNu, .inl (cJ, 2001, .inr (.inl vf)))]
abbrev pc_t_X9_kind (dC : Nat → ClassId) (dI : Nat → Nat → Nat) (sz : Nat) (cB cI cJ cZ : ClassId) (h0 hQ hKi hPl hNu : Nat) (kf pf : Nat → Int32) (vf : Nat → Int64) (fl pl : Int32) (w2 w3 : Value) (i4 i5 : Int32) (w6 : Value) (x1 z1 : Nat) (w10 : Value) (i11 : Int32) (y3 : Value) (j4 j5 : Int32) (y6 : Value) : Array Value → State → Prop := va_Pc [.ref h0] (fun U => U.heap.size = sz ∧ va_P (dC, dI) vwCl [(h0, .inr (10, [.int fl, .int pl, w2, w3, .int i4, .int i5, w6, .ref hQ, .int (nI x1), .int (nI z1), w10, .int i11])), (hQ, .inr (11, [.ref hKi, .ref hPl, .ref hNu, y3, .int j4, .int j5, y6])), (hKi, .inl (cI, 2001, .inl kf)), (hPl, .inl (cI, 2001, .inl pf)), (hNu, .inl (cJ, 2001, .inr (.inl vf)))] U.heap ∧ va_K (dC, dI) vwCl [(cB, .byte), (cI, .int), (cJ, .long), (cZ, .boolean)] U ∧ va_D (fun _ => True) [(h0, .inr (10, [.int fl, .int pl, w2, w3, .int i4, .int i5, w6, .ref hQ, .int (nI x1), .int (nI z1), w10, .int i11])), (hQ, .inr (11, [.ref hKi, .ref hPl, .ref hNu, y3, .int j4, .int j5, y6])), (hKi, .inl (cI, 2001, .inl kf)), (hPl, .inl (cI, 2001, .inl pf)), (hNu, .inl (cJ, 2001, .inr (.inl vf)))])
abbrev qc_t_X9_kind (dC : Nat → ClassId) (dI : Nat → Nat → Nat) (cB cI cJ cZ : ClassId) (h0 hQ hKi hPl hNu : Nat) (kf pf : Nat → Int32) (vf : Nat → Int64) (fl pl : Int32) (w2 w3 : Value) (i4 i5 : Int32) (w6 : Value) (x1 z1 : Nat) (w10 : Value) (i11 : Int32) (y3 : Value) (j4 j5 : Int32) (y6 : Value) (A : Nat → Prop) : Array Value → State → Outcome → State → Prop := va_Qi (fun (r : Int32) (u : Unit) => match u with | _ => r = kdF fl kf x1) (fun (u : Unit) t_ => match u with | _ => va_P (dC, dI) vwCl [(h0, .inr (10, [.int fl, .int pl, w2, w3, .int i4, .int i5, w6, .ref hQ, .int (nI x1), .int (nI z1), w10, .int i11])), (hQ, .inr (11, [.ref hKi, .ref hPl, .ref hNu, y3, .int j4, .int j5, y6])), (hKi, .inl (cI, 2001, .inl kf)), (hPl, .inl (cI, 2001, .inl pf)), (hNu, .inl (cJ, 2001, .inr (.inl vf)))] t_.heap ∧ va_K (dC, dI) vwCl [(cB, .byte), (cI, .int), (cJ, .long), (cZ, .boolean)] t_ ∧ va_D A [(h0, .inr (10, [.int fl, .int pl, w2, w3, .int i4, .int i5, w6, .ref hQ, .int (nI x1), .int (nI z1), w10, .int i11])), (hQ, .inr (11, [.ref hKi, .ref hPl, .ref hNu, y3, .int j4, .int j5, y6])), (hKi, .inl (cI, 2001, .inl kf)), (hPl, .inl (cI, 2001, .inl pf)), (hNu, .inl (cJ, 2001, .inr (.inl vf)))]) A
set_option maxHeartbeats 4000000 in
set_option maxRecDepth 100000 in
theorem t_X9_kind (l : Launch) (dC : Nat → ClassId) (dI : Nat → Nat → Nat) (sz : Nat) (cB cI cJ cZ : ClassId) (h0 hQ hKi hPl hNu : Nat) (kf pf : Nat → Int32) (vf : Nat → Int64) (fl pl : Int32) (w2 w3 : Value) (i4 i5 : Int32) (w6 : Value) (x1 z1 : Nat) (w10 : Value) (i11 : Int32) (y3 : Value) (j4 j5 : Int32) (y6 : Value) (hx1 : x1 ≤ 2000) : Met l yX9_kind (wsOf yX9_kind cX9_kind 1 (some .int)) ({ frames := 0, cells := 0, slots := 0, locals := 0 }) (pc_t_X9_kind dC dI sz cB cI cJ cZ h0 hQ hKi hPl hNu kf pf vf fl pl w2 w3 i4 i5 w6 x1 z1 w10 i11 y3 j4 j5 y6) (qc_t_X9_kind dC dI cB cI cJ cZ h0 hQ hKi hPl hNu kf pf vf fl pl w2 w3 i4 i5 w6 x1 z1 w10 i11 y3 j4 j5 y6 (va_A (cs_t_X9_kind cB cI cJ cZ h0 hQ hKi hPl hNu kf pf vf fl pl w2 w3 i4 i5 w6 x1 z1 w10 i11 y3 j4 j5 y6) sz)) 0 0 (va_A (cs_t_X9_kind cB cI cJ cZ h0 hQ hKi hPl hNu kf pf vf fl pl w2 w3 i4 i5 w6 x1 z1 w10 i11 y3 j4 j5 y6) sz) := by
  refine Met.ofW (cc := cX9_kind) (maxL := 1) (ret := (some .int)) (by decide) rfl ?_
  intro p e s m args below meth c s₁ B hml hv
  obtain ⟨rfl, hsz, hP, hK, hD0⟩ := hv
  have hx := B.exec
  have hb := B.bytes
  have hr := B.returns
  have hts := atoms_spec (ws := (wsOf yX9_kind cX9_kind 1 (some .int))) B.pre
  have hown : s.vm.findClass RX9 = some m.cls := findClass_of_methodNamed B.named
  have hlocks := B.notSynchronized
  subst hsz
  have hD := hD0.self (sz := s.heap.size)
  generalize hAe : va_A (cs_t_X9_kind cB cI cJ cZ h0 hQ hKi hPl hNu kf pf vf fl pl w2 w3 i4 i5 w6 x1 z1 w10 i11 y3 j4 j5 y6) s.heap.size = A at hD ⊢
  have hA : ∀ q : Nat, s.heap.size ≤ q → A q := fun q h => by rw [← hAe]; exact Or.inr h
  have hS : va_S A s.heap s.heap [] := va_S.rf
  have hP : va_P (dC, dI) vwCl [(h0, .inr (10, [.int fl, .int pl, w2, w3, .int i4, .int i5, w6, .ref hQ, .int (nI x1), .int (nI z1), w10, .int i11])), (hQ, .inr (11, [.ref hKi, .ref hPl, .ref hNu, y3, .int j4, .int j5, y6])), (hKi, .inl (cI, 2001, .inl kf)), (hPl, .inl (cI, 2001, .inl pf)), (hNu, .inl (cJ, 2001, .inr (.inl vf)))] s.heap := hP
  have hl := lv_entry ([.ref h0]) (n := 1) (Nat.le_of_ble_eq_true rfl)
  rw [lg_entry_eq]
  generalize (lg_sl ([.ref h0]) ++ List.replicate (1 - (lg_sl ([.ref h0])).length) Slot.unset).toArray = ls at hl ⊢
  have hl : lv_has ls 1 [(0, .ref h0)] := hl
  refine lv_aload_n hx hb dX9_kind_0 rfl (lv_at hl 0 rfl) ?_
  refine va_get (D := (dC, dI)) (ci := 10) (v := .int fl) (C := RX9) (T := TX9) (N := 12) hx hb hts (fun w h => List.mem_cons_of_mem _ (uG_X9 w h)) hown hK hP 0 rfl rfl 0 (by decide) (hts _ (List.mem_cons_of_mem _ kw_855)) (fun _ h9 => h9) rfl dX9_kind_1 ?_
  refine lv_if_ne (tgt := 22) hx hb dX9_kind_4 (by decide) (fun c_1 => ?_) (fun c_1 => ?_)
  · skip
    refine lv_bipush (v := 57) hx hb dX9_kind_22 (by decide) ?_
    refine lv_goto (tgt := 39) hx hb dX9_kind_24 (by decide) ?_
    have hP9 := hP.sub (ws' := [(h0, .inr (10, [.int fl, .int pl, w2, w3, .int i4, .int i5, w6, .ref hQ, .int (nI x1), .int (nI z1), w10, .int i11])), (hQ, .inr (11, [.ref hKi, .ref hPl, .ref hNu, y3, .int j4, .int j5, y6])), (hKi, .inl (cI, 2001, .inl kf)), (hPl, .inl (cI, 2001, .inl pf)), (hNu, .inl (cJ, 2001, .inr (.inl vf)))]) [0, 1, 2, 3, 4] rfl
    have hD9 := hD.sub (ws' := [(h0, .inr (10, [.int fl, .int pl, w2, w3, .int i4, .int i5, w6, .ref hQ, .int (nI x1), .int (nI z1), w10, .int i11])), (hQ, .inr (11, [.ref hKi, .ref hPl, .ref hNu, y3, .int j4, .int j5, y6])), (hKi, .inl (cI, 2001, .inl kf)), (hPl, .inl (cI, 2001, .inl pf)), (hNu, .inl (cJ, 2001, .inr (.inl vf)))]) [0, 1, 2, 3, 4] (by decide) rfl
    have hK9 := hK.sub (tys' := [(cB, .byte), (cI, .int), (cJ, .long), (cZ, .boolean)]) [0, 1, 2, 3] rfl
    exact W.iret (v := 57) hx hb hr (fun t_ ht hW => ⟨⟨57, (), rfl, by unfold kdF; rw [if_neg c_1], by rw [ht]; exact hP9, va_K.moved hW.alike hK9, hD9⟩, hS.F ht⟩) hS.2.2 dX9_kind_39
  · skip
    refine lv_aload_n hx hb dX9_kind_7 rfl (lv_at hl 0 rfl) ?_
    refine va_get (D := (dC, dI)) (ci := 10) (v := .int (nI x1)) (C := RX9) (T := TX9) (N := 12) hx hb hts (fun w h => List.mem_cons_of_mem _ (uG_X9 w h)) hown hK hP 0 rfl rfl 8 (by decide) (hts _ (List.mem_cons_of_mem _ kw_870)) (fun _ h9 => h9) rfl dX9_kind_8 ?_
    refine lv_aload_n hx hb dX9_kind_11 rfl (lv_at hl 0 rfl) ?_
    refine va_get (D := (dC, dI)) (ci := 10) (v := .ref hQ) (C := RX9) (T := TX9) (N := 12) hx hb hts (fun w h => List.mem_cons_of_mem _ (uG_X9 w h)) hown hK hP 0 rfl rfl 7 (by decide) (hts _ (List.mem_cons_of_mem _ kw_869)) (fun _ h9 => h9) rfl dX9_kind_12 ?_
    refine va_get (D := (dC, dI)) (ci := 11) (v := .ref hKi) (C := RX10) (T := TX10) (N := 7) hx hb hts (fun w h => List.mem_cons_of_mem _ (uG_X10 w h)) hown hK hP 1 rfl rfl 0 (by decide) (hts _ (List.mem_cons_of_mem _ kw_319)) (fun _ h9 => h9) rfl dX9_kind_15 ?_
    refine va_alen (v := 2001) hx hb hK hP 2 1 rfl rfl rfl dX9_kind_18 ?_
    refine lv_icmp_lt (tgt := 27) hx hb dX9_kind_19 (by decide) (fun c_2 => ?_) (fun c_2 => ?_)
    · skip
      have c_2 : x1 < 2001 := (nI_ltI (a := x1) (b := 2001) (by omega) (by omega)).mp c_2
      refine lv_aload_n hx hb dX9_kind_27 rfl (lv_at hl 0 rfl) ?_
      refine va_get (D := (dC, dI)) (ci := 10) (v := .ref hQ) (C := RX9) (T := TX9) (N := 12) hx hb hts (fun w h => List.mem_cons_of_mem _ (uG_X9 w h)) hown hK hP 0 rfl rfl 7 (by decide) (hts _ (List.mem_cons_of_mem _ kw_869)) (fun _ h9 => h9) rfl dX9_kind_28 ?_
      refine va_get (D := (dC, dI)) (ci := 11) (v := .ref hKi) (C := RX10) (T := TX10) (N := 7) hx hb hts (fun w h => List.mem_cons_of_mem _ (uG_X10 w h)) hown hK hP 1 rfl rfl 0 (by decide) (hts _ (List.mem_cons_of_mem _ kw_319)) (fun _ h9 => h9) rfl dX9_kind_31 ?_
      refine lv_aload_n hx hb dX9_kind_34 rfl (lv_at hl 0 rfl) ?_
      refine va_get (D := (dC, dI)) (ci := 10) (v := .int (nI x1)) (C := RX9) (T := TX9) (N := 12) hx hb hts (fun w h => List.mem_cons_of_mem _ (uG_X9 w h)) hown hK hP 0 rfl rfl 8 (by decide) (hts _ (List.mem_cons_of_mem _ kw_870)) (fun _ h9 => h9) rfl dX9_kind_35 ?_
      refine va_iald hx hb hK hP 2 1 rfl rfl (i := (nI x1)) (vp_in_nI (n := x1) (N := 2001) (by omega) (by omega)) dX9_kind_38 ?_
      refine lv_topi (fun x_3 ex_3 => ?_)
      have ex_3 : x_3 = kf x1 := ex_3.trans (congrArg kf (nI_clamp (n := x1) (by omega)))
      subst ex_3
      have hP9 := hP.sub (ws' := [(h0, .inr (10, [.int fl, .int pl, w2, w3, .int i4, .int i5, w6, .ref hQ, .int (nI x1), .int (nI z1), w10, .int i11])), (hQ, .inr (11, [.ref hKi, .ref hPl, .ref hNu, y3, .int j4, .int j5, y6])), (hKi, .inl (cI, 2001, .inl kf)), (hPl, .inl (cI, 2001, .inl pf)), (hNu, .inl (cJ, 2001, .inr (.inl vf)))]) [0, 1, 2, 3, 4] rfl
      have hD9 := hD.sub (ws' := [(h0, .inr (10, [.int fl, .int pl, w2, w3, .int i4, .int i5, w6, .ref hQ, .int (nI x1), .int (nI z1), w10, .int i11])), (hQ, .inr (11, [.ref hKi, .ref hPl, .ref hNu, y3, .int j4, .int j5, y6])), (hKi, .inl (cI, 2001, .inl kf)), (hPl, .inl (cI, 2001, .inl pf)), (hNu, .inl (cJ, 2001, .inr (.inl vf)))]) [0, 1, 2, 3, 4] (by decide) rfl
      have hK9 := hK.sub (tys' := [(cB, .byte), (cI, .int), (cJ, .long), (cZ, .boolean)]) [0, 1, 2, 3] rfl
      exact W.iret (v := (kf x1)) hx hb hr (fun t_ ht hW => ⟨⟨(kf x1), (), rfl, by unfold kdF; rw [if_pos c_1], by rw [ht]; exact hP9, va_K.moved hW.alike hK9, hD9⟩, hS.F ht⟩) hS.2.2 dX9_kind_39
    · skip
      have c_2 : ¬ (x1 < 2001) := fun h => c_2 ((nI_ltI (a := x1) (b := 2001) (by omega) (by omega)).mpr h)
      exact absurd (show x1 < 2001 by omega) c_2
theorem dX9_here_0 : decode cX9_here 0 = .ok (.aload_n 0, 1) := by decide +kernel
theorem dX9_here_1 : decode cX9_here 1 = .ok (.getfield 99, 3) := by decide +kernel
theorem dX9_here_4 : decode cX9_here 4 = .ok (.aload_n 0, 1) := by decide +kernel
theorem dX9_here_5 : decode cX9_here 5 = .ok (.getfield 9, 3) := by decide +kernel
theorem dX9_here_8 : decode cX9_here 8 = .ok (.getfield 107, 3) := by decide +kernel
theorem dX9_here_11 : decode cX9_here 11 = .ok (.arraylength, 1) := by decide +kernel
theorem dX9_here_12 : decode cX9_here 12 = .ok (.if_icmp .ge 18, 3) := by decide +kernel
theorem dX9_here_15 : decode cX9_here 15 = .ok (.aload_n 0, 1) := by decide +kernel
theorem dX9_here_16 : decode cX9_here 16 = .ok (.getfield 9, 3) := by decide +kernel
theorem dX9_here_19 : decode cX9_here 19 = .ok (.getfield 107, 3) := by decide +kernel
theorem dX9_here_22 : decode cX9_here 22 = .ok (.aload_n 0, 1) := by decide +kernel
theorem dX9_here_23 : decode cX9_here 23 = .ok (.getfield 99, 3) := by decide +kernel
theorem dX9_here_26 : decode cX9_here 26 = .ok (.iaload, 1) := by decide +kernel
theorem dX9_here_27 : decode cX9_here 27 = .ok (.goto 4, 3) := by decide +kernel
theorem dX9_here_31 : decode cX9_here 31 = .ok (.ireturn, 1) := by decide +kernel
abbrev cs_t_X9_here (cB cI cJ cZ : ClassId) (h0 hQ hKi hPl hNu : Nat) (kf pf : Nat → Int32) (vf : Nat → Int64) (fl pl : Int32) (w2 w3 : Value) (i4 i5 : Int32) (w6 : Value) (x1 z1 : Nat) (w10 : Value) (i11 : Int32) (y3 : Value) (j4 j5 : Int32) (y6 : Value) : va_W := [(h0, .inr (10, [.int fl, .int pl, w2, w3, .int i4, .int i5, w6, .ref hQ, .int (nI x1), .int (nI z1), w10, .int i11])), (hQ, .inr (11, [.ref hKi, .ref hPl, .ref hNu, y3, .int j4, .int j5, y6])), (hKi, .inl (cI, 2001, .inl kf)), (hPl, .inl (cI, 2001, .inl pf)), (hNu, .inl (cJ, 2001, .inr (.inl vf)))]
abbrev pc_t_X9_here (dC : Nat → ClassId) (dI : Nat → Nat → Nat) (sz : Nat) (cB cI cJ cZ : ClassId) (h0 hQ hKi hPl hNu : Nat) (kf pf : Nat → Int32) (vf : Nat → Int64) (fl pl : Int32) (w2 w3 : Value) (i4 i5 : Int32) (w6 : Value) (x1 z1 : Nat) (w10 : Value) (i11 : Int32) (y3 : Value) (j4 j5 : Int32) (y6 : Value) : Array Value → State → Prop := va_Pc [.ref h0] (fun U => U.heap.size = sz ∧ va_P (dC, dI) vwCl [(h0, .inr (10, [.int fl, .int pl, w2, w3, .int i4, .int i5, w6, .ref hQ, .int (nI x1), .int (nI z1), w10, .int i11])), (hQ, .inr (11, [.ref hKi, .ref hPl, .ref hNu, y3, .int j4, .int j5, y6])), (hKi, .inl (cI, 2001, .inl kf)), (hPl, .inl (cI, 2001, .inl pf)), (hNu, .inl (cJ, 2001, .inr (.inl vf)))] U.heap ∧ va_K (dC, dI) vwCl [(cB, .byte), (cI, .int), (cJ, .long), (cZ, .boolean)] U ∧ va_D (fun _ => True) [(h0, .inr (10, [.int fl, .int pl, w2, w3, .int i4, .int i5, w6, .ref hQ, .int (nI x1), .int (nI z1), w10, .int i11])), (hQ, .inr (11, [.ref hKi, .ref hPl, .ref hNu, y3, .int j4, .int j5, y6])), (hKi, .inl (cI, 2001, .inl kf)), (hPl, .inl (cI, 2001, .inl pf)), (hNu, .inl (cJ, 2001, .inr (.inl vf)))])
abbrev qc_t_X9_here (dC : Nat → ClassId) (dI : Nat → Nat → Nat) (cB cI cJ cZ : ClassId) (h0 hQ hKi hPl hNu : Nat) (kf pf : Nat → Int32) (vf : Nat → Int64) (fl pl : Int32) (w2 w3 : Value) (i4 i5 : Int32) (w6 : Value) (x1 z1 : Nat) (w10 : Value) (i11 : Int32) (y3 : Value) (j4 j5 : Int32) (y6 : Value) (A : Nat → Prop) : Array Value → State → Outcome → State → Prop := va_Qi (fun (r : Int32) (u : Unit) => match u with | _ => r = pf x1) (fun (u : Unit) t_ => match u with | _ => va_P (dC, dI) vwCl [(h0, .inr (10, [.int fl, .int pl, w2, w3, .int i4, .int i5, w6, .ref hQ, .int (nI x1), .int (nI z1), w10, .int i11])), (hQ, .inr (11, [.ref hKi, .ref hPl, .ref hNu, y3, .int j4, .int j5, y6])), (hKi, .inl (cI, 2001, .inl kf)), (hPl, .inl (cI, 2001, .inl pf)), (hNu, .inl (cJ, 2001, .inr (.inl vf)))] t_.heap ∧ va_K (dC, dI) vwCl [(cB, .byte), (cI, .int), (cJ, .long), (cZ, .boolean)] t_ ∧ va_D A [(h0, .inr (10, [.int fl, .int pl, w2, w3, .int i4, .int i5, w6, .ref hQ, .int (nI x1), .int (nI z1), w10, .int i11])), (hQ, .inr (11, [.ref hKi, .ref hPl, .ref hNu, y3, .int j4, .int j5, y6])), (hKi, .inl (cI, 2001, .inl kf)), (hPl, .inl (cI, 2001, .inl pf)), (hNu, .inl (cJ, 2001, .inr (.inl vf)))]) A
set_option maxHeartbeats 4000000 in
set_option maxRecDepth 100000 in
theorem t_X9_here (l : Launch) (dC : Nat → ClassId) (dI : Nat → Nat → Nat) (sz : Nat) (cB cI cJ cZ : ClassId) (h0 hQ hKi hPl hNu : Nat) (kf pf : Nat → Int32) (vf : Nat → Int64) (fl pl : Int32) (w2 w3 : Value) (i4 i5 : Int32) (w6 : Value) (x1 z1 : Nat) (w10 : Value) (i11 : Int32) (y3 : Value) (j4 j5 : Int32) (y6 : Value) (hx1 : x1 ≤ 2000) : Met l yX9_here (wsOf yX9_here cX9_here 1 (some .int)) ({ frames := 0, cells := 0, slots := 0, locals := 0 }) (pc_t_X9_here dC dI sz cB cI cJ cZ h0 hQ hKi hPl hNu kf pf vf fl pl w2 w3 i4 i5 w6 x1 z1 w10 i11 y3 j4 j5 y6) (qc_t_X9_here dC dI cB cI cJ cZ h0 hQ hKi hPl hNu kf pf vf fl pl w2 w3 i4 i5 w6 x1 z1 w10 i11 y3 j4 j5 y6 (va_A (cs_t_X9_here cB cI cJ cZ h0 hQ hKi hPl hNu kf pf vf fl pl w2 w3 i4 i5 w6 x1 z1 w10 i11 y3 j4 j5 y6) sz)) 0 0 (va_A (cs_t_X9_here cB cI cJ cZ h0 hQ hKi hPl hNu kf pf vf fl pl w2 w3 i4 i5 w6 x1 z1 w10 i11 y3 j4 j5 y6) sz) := by
  refine Met.ofW (cc := cX9_here) (maxL := 1) (ret := (some .int)) (by decide) rfl ?_
  intro p e s m args below meth c s₁ B hml hv
  obtain ⟨rfl, hsz, hP, hK, hD0⟩ := hv
  have hx := B.exec
  have hb := B.bytes
  have hr := B.returns
  have hts := atoms_spec (ws := (wsOf yX9_here cX9_here 1 (some .int))) B.pre
  have hown : s.vm.findClass RX9 = some m.cls := findClass_of_methodNamed B.named
  have hlocks := B.notSynchronized
  subst hsz
  have hD := hD0.self (sz := s.heap.size)
  generalize hAe : va_A (cs_t_X9_here cB cI cJ cZ h0 hQ hKi hPl hNu kf pf vf fl pl w2 w3 i4 i5 w6 x1 z1 w10 i11 y3 j4 j5 y6) s.heap.size = A at hD ⊢
  have hA : ∀ q : Nat, s.heap.size ≤ q → A q := fun q h => by rw [← hAe]; exact Or.inr h
  have hS : va_S A s.heap s.heap [] := va_S.rf
  have hP : va_P (dC, dI) vwCl [(h0, .inr (10, [.int fl, .int pl, w2, w3, .int i4, .int i5, w6, .ref hQ, .int (nI x1), .int (nI z1), w10, .int i11])), (hQ, .inr (11, [.ref hKi, .ref hPl, .ref hNu, y3, .int j4, .int j5, y6])), (hKi, .inl (cI, 2001, .inl kf)), (hPl, .inl (cI, 2001, .inl pf)), (hNu, .inl (cJ, 2001, .inr (.inl vf)))] s.heap := hP
  have hl := lv_entry ([.ref h0]) (n := 1) (Nat.le_of_ble_eq_true rfl)
  rw [lg_entry_eq]
  generalize (lg_sl ([.ref h0]) ++ List.replicate (1 - (lg_sl ([.ref h0])).length) Slot.unset).toArray = ls at hl ⊢
  have hl : lv_has ls 1 [(0, .ref h0)] := hl
  refine lv_aload_n hx hb dX9_here_0 rfl (lv_at hl 0 rfl) ?_
  refine va_get (D := (dC, dI)) (ci := 10) (v := .int (nI x1)) (C := RX9) (T := TX9) (N := 12) hx hb hts (fun w h => List.mem_cons_of_mem _ (uG_X9 w h)) hown hK hP 0 rfl rfl 8 (by decide) (hts _ (List.mem_cons_of_mem _ kw_870)) (fun _ h9 => h9) rfl dX9_here_1 ?_
  refine lv_aload_n hx hb dX9_here_4 rfl (lv_at hl 0 rfl) ?_
  refine va_get (D := (dC, dI)) (ci := 10) (v := .ref hQ) (C := RX9) (T := TX9) (N := 12) hx hb hts (fun w h => List.mem_cons_of_mem _ (uG_X9 w h)) hown hK hP 0 rfl rfl 7 (by decide) (hts _ (List.mem_cons_of_mem _ kw_869)) (fun _ h9 => h9) rfl dX9_here_5 ?_
  refine va_get (D := (dC, dI)) (ci := 11) (v := .ref hPl) (C := RX10) (T := TX10) (N := 7) hx hb hts (fun w h => List.mem_cons_of_mem _ (uG_X10 w h)) hown hK hP 1 rfl rfl 1 (by decide) (hts _ (List.mem_cons_of_mem _ kw_321)) (fun _ h9 => h9) rfl dX9_here_8 ?_
  refine va_alen (v := 2001) hx hb hK hP 3 1 rfl rfl rfl dX9_here_11 ?_
  refine lv_icmp_ge (tgt := 30) hx hb dX9_here_12 (by decide) (fun c_1 => ?_) (fun c_1 => ?_)
  · skip
    have c_1 : 2001 ≤ x1 := (nI_leI (a := 2001) (b := x1) (by omega) (by omega)).mp c_1
    exact absurd c_1 (by omega)
  · skip
    have c_1 : ¬ (2001 ≤ x1) := fun h => c_1 ((nI_leI (a := 2001) (b := x1) (by omega) (by omega)).mpr h)
    refine lv_aload_n hx hb dX9_here_15 rfl (lv_at hl 0 rfl) ?_
    refine va_get (D := (dC, dI)) (ci := 10) (v := .ref hQ) (C := RX9) (T := TX9) (N := 12) hx hb hts (fun w h => List.mem_cons_of_mem _ (uG_X9 w h)) hown hK hP 0 rfl rfl 7 (by decide) (hts _ (List.mem_cons_of_mem _ kw_869)) (fun _ h9 => h9) rfl dX9_here_16 ?_
    refine va_get (D := (dC, dI)) (ci := 11) (v := .ref hPl) (C := RX10) (T := TX10) (N := 7) hx hb hts (fun w h => List.mem_cons_of_mem _ (uG_X10 w h)) hown hK hP 1 rfl rfl 1 (by decide) (hts _ (List.mem_cons_of_mem _ kw_321)) (fun _ h9 => h9) rfl dX9_here_19 ?_
    refine lv_aload_n hx hb dX9_here_22 rfl (lv_at hl 0 rfl) ?_
    refine va_get (D := (dC, dI)) (ci := 10) (v := .int (nI x1)) (C := RX9) (T := TX9) (N := 12) hx hb hts (fun w h => List.mem_cons_of_mem _ (uG_X9 w h)) hown hK hP 0 rfl rfl 8 (by decide) (hts _ (List.mem_cons_of_mem _ kw_870)) (fun _ h9 => h9) rfl dX9_here_23 ?_
    refine va_iald hx hb hK hP 3 1 rfl rfl (i := (nI x1)) (vp_in_nI (n := x1) (N := 2001) (by omega) (by omega)) dX9_here_26 ?_
    refine lv_topi (fun x_2 ex_2 => ?_)
    have ex_2 : x_2 = pf x1 := ex_2.trans (congrArg pf (nI_clamp (n := x1) (by omega)))
    subst ex_2
    refine lv_goto (tgt := 31) hx hb dX9_here_27 (by decide) ?_
    have hP9 := hP.sub (ws' := [(h0, .inr (10, [.int fl, .int pl, w2, w3, .int i4, .int i5, w6, .ref hQ, .int (nI x1), .int (nI z1), w10, .int i11])), (hQ, .inr (11, [.ref hKi, .ref hPl, .ref hNu, y3, .int j4, .int j5, y6])), (hKi, .inl (cI, 2001, .inl kf)), (hPl, .inl (cI, 2001, .inl pf)), (hNu, .inl (cJ, 2001, .inr (.inl vf)))]) [0, 1, 2, 3, 4] rfl
    have hD9 := hD.sub (ws' := [(h0, .inr (10, [.int fl, .int pl, w2, w3, .int i4, .int i5, w6, .ref hQ, .int (nI x1), .int (nI z1), w10, .int i11])), (hQ, .inr (11, [.ref hKi, .ref hPl, .ref hNu, y3, .int j4, .int j5, y6])), (hKi, .inl (cI, 2001, .inl kf)), (hPl, .inl (cI, 2001, .inl pf)), (hNu, .inl (cJ, 2001, .inr (.inl vf)))]) [0, 1, 2, 3, 4] (by decide) rfl
    have hK9 := hK.sub (tys' := [(cB, .byte), (cI, .int), (cJ, .long), (cZ, .boolean)]) [0, 1, 2, 3] rfl
    exact W.iret (v := (pf x1)) hx hb hr (fun t_ ht hW => ⟨⟨(pf x1), (), rfl, rfl, by rw [ht]; exact hP9, va_K.moved hW.alike hK9, hD9⟩, hS.F ht⟩) hS.2.2 dX9_here_31
theorem dX9_number_0 : decode cX9_number 0 = .ok (.aload_n 0, 1) := by decide +kernel
theorem dX9_number_1 : decode cX9_number 1 = .ok (.getfield 99, 3) := by decide +kernel
theorem dX9_number_4 : decode cX9_number 4 = .ok (.aload_n 0, 1) := by decide +kernel
theorem dX9_number_5 : decode cX9_number 5 = .ok (.getfield 9, 3) := by decide +kernel
theorem dX9_number_8 : decode cX9_number 8 = .ok (.getfield 110, 3) := by decide +kernel
theorem dX9_number_11 : decode cX9_number 11 = .ok (.arraylength, 1) := by decide +kernel
theorem dX9_number_12 : decode cX9_number 12 = .ok (.if_icmp .ge 18, 3) := by decide +kernel
theorem dX9_number_15 : decode cX9_number 15 = .ok (.aload_n 0, 1) := by decide +kernel
theorem dX9_number_16 : decode cX9_number 16 = .ok (.getfield 9, 3) := by decide +kernel
theorem dX9_number_19 : decode cX9_number 19 = .ok (.getfield 110, 3) := by decide +kernel
theorem dX9_number_22 : decode cX9_number 22 = .ok (.aload_n 0, 1) := by decide +kernel
theorem dX9_number_23 : decode cX9_number 23 = .ok (.getfield 99, 3) := by decide +kernel
theorem dX9_number_26 : decode cX9_number 26 = .ok (.laload, 1) := by decide +kernel
theorem dX9_number_27 : decode cX9_number 27 = .ok (.goto 4, 3) := by decide +kernel
theorem dX9_number_31 : decode cX9_number 31 = .ok (.lreturn, 1) := by decide +kernel
abbrev cs_t_X9_number (cB cI cJ cZ : ClassId) (h0 hQ hKi hPl hNu : Nat) (kf pf : Nat → Int32) (vf : Nat → Int64) (fl pl : Int32) (w2 w3 : Value) (i4 i5 : Int32) (w6 : Value) (x1 z1 : Nat) (w10 : Value) (i11 : Int32) (y3 : Value) (j4 j5 : Int32) (y6 : Value) : va_W := [(h0, .inr (10, [.int fl, .int pl, w2, w3, .int i4, .int i5, w6, .ref hQ, .int (nI x1), .int (nI z1), w10, .int i11])), (hQ, .inr (11, [.ref hKi, .ref hPl, .ref hNu, y3, .int j4, .int j5, y6])), (hKi, .inl (cI, 2001, .inl kf)), (hPl, .inl (cI, 2001, .inl pf)), (hNu, .inl (cJ, 2001, .inr (.inl vf)))]
abbrev pc_t_X9_number (dC : Nat → ClassId) (dI : Nat → Nat → Nat) (sz : Nat) (cB cI cJ cZ : ClassId) (h0 hQ hKi hPl hNu : Nat) (kf pf : Nat → Int32) (vf : Nat → Int64) (fl pl : Int32) (w2 w3 : Value) (i4 i5 : Int32) (w6 : Value) (x1 z1 : Nat) (w10 : Value) (i11 : Int32) (y3 : Value) (j4 j5 : Int32) (y6 : Value) : Array Value → State → Prop := va_Pc [.ref h0] (fun U => U.heap.size = sz ∧ va_P (dC, dI) vwCl [(h0, .inr (10, [.int fl, .int pl, w2, w3, .int i4, .int i5, w6, .ref hQ, .int (nI x1), .int (nI z1), w10, .int i11])), (hQ, .inr (11, [.ref hKi, .ref hPl, .ref hNu, y3, .int j4, .int j5, y6])), (hKi, .inl (cI, 2001, .inl kf)), (hPl, .inl (cI, 2001, .inl pf)), (hNu, .inl (cJ, 2001, .inr (.inl vf)))] U.heap ∧ va_K (dC, dI) vwCl [(cB, .byte), (cI, .int), (cJ, .long), (cZ, .boolean)] U ∧ va_D (fun _ => True) [(h0, .inr (10, [.int fl, .int pl, w2, w3, .int i4, .int i5, w6, .ref hQ, .int (nI x1), .int (nI z1), w10, .int i11])), (hQ, .inr (11, [.ref hKi, .ref hPl, .ref hNu, y3, .int j4, .int j5, y6])), (hKi, .inl (cI, 2001, .inl kf)), (hPl, .inl (cI, 2001, .inl pf)), (hNu, .inl (cJ, 2001, .inr (.inl vf)))])
abbrev qc_t_X9_number (dC : Nat → ClassId) (dI : Nat → Nat → Nat) (cB cI cJ cZ : ClassId) (h0 hQ hKi hPl hNu : Nat) (kf pf : Nat → Int32) (vf : Nat → Int64) (fl pl : Int32) (w2 w3 : Value) (i4 i5 : Int32) (w6 : Value) (x1 z1 : Nat) (w10 : Value) (i11 : Int32) (y3 : Value) (j4 j5 : Int32) (y6 : Value) (A : Nat → Prop) : Array Value → State → Outcome → State → Prop := va_Ql (fun (r : Int64) (u : Unit) => match u with | _ => r = vf x1) (fun (u : Unit) t_ => match u with | _ => va_P (dC, dI) vwCl [(h0, .inr (10, [.int fl, .int pl, w2, w3, .int i4, .int i5, w6, .ref hQ, .int (nI x1), .int (nI z1), w10, .int i11])), (hQ, .inr (11, [.ref hKi, .ref hPl, .ref hNu, y3, .int j4, .int j5, y6])), (hKi, .inl (cI, 2001, .inl kf)), (hPl, .inl (cI, 2001, .inl pf)), (hNu, .inl (cJ, 2001, .inr (.inl vf)))] t_.heap ∧ va_K (dC, dI) vwCl [(cB, .byte), (cI, .int), (cJ, .long), (cZ, .boolean)] t_ ∧ va_D A [(h0, .inr (10, [.int fl, .int pl, w2, w3, .int i4, .int i5, w6, .ref hQ, .int (nI x1), .int (nI z1), w10, .int i11])), (hQ, .inr (11, [.ref hKi, .ref hPl, .ref hNu, y3, .int j4, .int j5, y6])), (hKi, .inl (cI, 2001, .inl kf)), (hPl, .inl (cI, 2001, .inl pf)), (hNu, .inl (cJ, 2001, .inr (.inl vf)))]) A
set_option maxHeartbeats 4000000 in
set_option maxRecDepth 100000 in
theorem t_X9_number (l : Launch) (dC : Nat → ClassId) (dI : Nat → Nat → Nat) (sz : Nat) (cB cI cJ cZ : ClassId) (h0 hQ hKi hPl hNu : Nat) (kf pf : Nat → Int32) (vf : Nat → Int64) (fl pl : Int32) (w2 w3 : Value) (i4 i5 : Int32) (w6 : Value) (x1 z1 : Nat) (w10 : Value) (i11 : Int32) (y3 : Value) (j4 j5 : Int32) (y6 : Value) (hx1 : x1 ≤ 2000) : Met l yX9_number (wsOf yX9_number cX9_number 1 (some .long)) ({ frames := 0, cells := 0, slots := 0, locals := 0 }) (pc_t_X9_number dC dI sz cB cI cJ cZ h0 hQ hKi hPl hNu kf pf vf fl pl w2 w3 i4 i5 w6 x1 z1 w10 i11 y3 j4 j5 y6) (qc_t_X9_number dC dI cB cI cJ cZ h0 hQ hKi hPl hNu kf pf vf fl pl w2 w3 i4 i5 w6 x1 z1 w10 i11 y3 j4 j5 y6 (va_A (cs_t_X9_number cB cI cJ cZ h0 hQ hKi hPl hNu kf pf vf fl pl w2 w3 i4 i5 w6 x1 z1 w10 i11 y3 j4 j5 y6) sz)) 0 0 (va_A (cs_t_X9_number cB cI cJ cZ h0 hQ hKi hPl hNu kf pf vf fl pl w2 w3 i4 i5 w6 x1 z1 w10 i11 y3 j4 j5 y6) sz) := by
  refine Met.ofW (cc := cX9_number) (maxL := 1) (ret := (some .long)) (by decide) rfl ?_
  intro p e s m args below meth c s₁ B hml hv
  obtain ⟨rfl, hsz, hP, hK, hD0⟩ := hv
  have hx := B.exec
  have hb := B.bytes
  have hr := B.returns
  have hts := atoms_spec (ws := (wsOf yX9_number cX9_number 1 (some .long))) B.pre
  have hown : s.vm.findClass RX9 = some m.cls := findClass_of_methodNamed B.named
  have hlocks := B.notSynchronized
  subst hsz
  have hD := hD0.self (sz := s.heap.size)
  generalize hAe : va_A (cs_t_X9_number cB cI cJ cZ h0 hQ hKi hPl hNu kf pf vf fl pl w2 w3 i4 i5 w6 x1 z1 w10 i11 y3 j4 j5 y6) s.heap.size = A at hD ⊢
  have hA : ∀ q : Nat, s.heap.size ≤ q → A q := fun q h => by rw [← hAe]; exact Or.inr h
  have hS : va_S A s.heap s.heap [] := va_S.rf
  have hP : va_P (dC, dI) vwCl [(h0, .inr (10, [.int fl, .int pl, w2, w3, .int i4, .int i5, w6, .ref hQ, .int (nI x1), .int (nI z1), w10, .int i11])), (hQ, .inr (11, [.ref hKi, .ref hPl, .ref hNu, y3, .int j4, .int j5, y6])), (hKi, .inl (cI, 2001, .inl kf)), (hPl, .inl (cI, 2001, .inl pf)), (hNu, .inl (cJ, 2001, .inr (.inl vf)))] s.heap := hP
  have hl := lv_entry ([.ref h0]) (n := 1) (Nat.le_of_ble_eq_true rfl)
  rw [lg_entry_eq]
  generalize (lg_sl ([.ref h0]) ++ List.replicate (1 - (lg_sl ([.ref h0])).length) Slot.unset).toArray = ls at hl ⊢
  have hl : lv_has ls 1 [(0, .ref h0)] := hl
  refine lv_aload_n hx hb dX9_number_0 rfl (lv_at hl 0 rfl) ?_
  refine va_get (D := (dC, dI)) (ci := 10) (v := .int (nI x1)) (C := RX9) (T := TX9) (N := 12) hx hb hts (fun w h => List.mem_cons_of_mem _ (uG_X9 w h)) hown hK hP 0 rfl rfl 8 (by decide) (hts _ (List.mem_cons_of_mem _ kw_870)) (fun _ h9 => h9) rfl dX9_number_1 ?_
  refine lv_aload_n hx hb dX9_number_4 rfl (lv_at hl 0 rfl) ?_
  refine va_get (D := (dC, dI)) (ci := 10) (v := .ref hQ) (C := RX9) (T := TX9) (N := 12) hx hb hts (fun w h => List.mem_cons_of_mem _ (uG_X9 w h)) hown hK hP 0 rfl rfl 7 (by decide) (hts _ (List.mem_cons_of_mem _ kw_869)) (fun _ h9 => h9) rfl dX9_number_5 ?_
  refine va_get (D := (dC, dI)) (ci := 11) (v := .ref hNu) (C := RX10) (T := TX10) (N := 7) hx hb hts (fun w h => List.mem_cons_of_mem _ (uG_X10 w h)) hown hK hP 1 rfl rfl 2 (by decide) (hts _ (List.mem_cons_of_mem _ kw_323)) (fun _ h9 => h9) rfl dX9_number_8 ?_
  refine va_alen (v := 2001) hx hb hK hP 4 2 rfl rfl rfl dX9_number_11 ?_
  refine lv_icmp_ge (tgt := 30) hx hb dX9_number_12 (by decide) (fun c_1 => ?_) (fun c_1 => ?_)
  · skip
    have c_1 : 2001 ≤ x1 := (nI_leI (a := 2001) (b := x1) (by omega) (by omega)).mp c_1
    exact absurd c_1 (by omega)
  · skip
    have c_1 : ¬ (2001 ≤ x1) := fun h => c_1 ((nI_leI (a := 2001) (b := x1) (by omega) (by omega)).mpr h)
    refine lv_aload_n hx hb dX9_number_15 rfl (lv_at hl 0 rfl) ?_
    refine va_get (D := (dC, dI)) (ci := 10) (v := .ref hQ) (C := RX9) (T := TX9) (N := 12) hx hb hts (fun w h => List.mem_cons_of_mem _ (uG_X9 w h)) hown hK hP 0 rfl rfl 7 (by decide) (hts _ (List.mem_cons_of_mem _ kw_869)) (fun _ h9 => h9) rfl dX9_number_16 ?_
    refine va_get (D := (dC, dI)) (ci := 11) (v := .ref hNu) (C := RX10) (T := TX10) (N := 7) hx hb hts (fun w h => List.mem_cons_of_mem _ (uG_X10 w h)) hown hK hP 1 rfl rfl 2 (by decide) (hts _ (List.mem_cons_of_mem _ kw_323)) (fun _ h9 => h9) rfl dX9_number_19 ?_
    refine lv_aload_n hx hb dX9_number_22 rfl (lv_at hl 0 rfl) ?_
    refine va_get (D := (dC, dI)) (ci := 10) (v := .int (nI x1)) (C := RX9) (T := TX9) (N := 12) hx hb hts (fun w h => List.mem_cons_of_mem _ (uG_X9 w h)) hown hK hP 0 rfl rfl 8 (by decide) (hts _ (List.mem_cons_of_mem _ kw_870)) (fun _ h9 => h9) rfl dX9_number_23 ?_
    refine va_lald hx hb hK hP 4 2 rfl rfl (i := (nI x1)) (vp_in_nI (n := x1) (N := 2001) (by omega) (by omega)) dX9_number_26 ?_
    refine lv_topl (fun x_2 ex_2 => ?_)
    have ex_2 : x_2 = vf x1 := ex_2.trans (congrArg vf (nI_clamp (n := x1) (by omega)))
    subst ex_2
    refine lv_goto (tgt := 31) hx hb dX9_number_27 (by decide) ?_
    have hP9 := hP.sub (ws' := [(h0, .inr (10, [.int fl, .int pl, w2, w3, .int i4, .int i5, w6, .ref hQ, .int (nI x1), .int (nI z1), w10, .int i11])), (hQ, .inr (11, [.ref hKi, .ref hPl, .ref hNu, y3, .int j4, .int j5, y6])), (hKi, .inl (cI, 2001, .inl kf)), (hPl, .inl (cI, 2001, .inl pf)), (hNu, .inl (cJ, 2001, .inr (.inl vf)))]) [0, 1, 2, 3, 4] rfl
    have hD9 := hD.sub (ws' := [(h0, .inr (10, [.int fl, .int pl, w2, w3, .int i4, .int i5, w6, .ref hQ, .int (nI x1), .int (nI z1), w10, .int i11])), (hQ, .inr (11, [.ref hKi, .ref hPl, .ref hNu, y3, .int j4, .int j5, y6])), (hKi, .inl (cI, 2001, .inl kf)), (hPl, .inl (cI, 2001, .inl pf)), (hNu, .inl (cJ, 2001, .inr (.inl vf)))]) [0, 1, 2, 3, 4] (by decide) rfl
    have hK9 := hK.sub (tys' := [(cB, .byte), (cI, .int), (cJ, .long), (cZ, .boolean)]) [0, 1, 2, 3] rfl
    exact W.lret (v := (vf x1)) hx hb hr (fun t_ ht hW => ⟨⟨(vf x1), (), rfl, rfl, by rw [ht]; exact hP9, va_K.moved hW.alike hK9, hD9⟩, hS.F ht⟩) hS.2.2 dX9_number_31
theorem dX9_refuse_0 : decode cX9_refuse 0 = .ok (.aload_n 0, 1) := by decide +kernel
theorem dX9_refuse_1 : decode cX9_refuse 1 = .ok (.getfield 93, 3) := by decide +kernel
theorem dX9_refuse_4 : decode cX9_refuse 4 = .ok (.ifCond .ne 13, 3) := by decide +kernel
theorem dX9_refuse_7 : decode cX9_refuse 7 = .ok (.aload_n 0, 1) := by decide +kernel
theorem dX9_refuse_8 : decode cX9_refuse 8 = .ok (.iload_n 1, 1) := by decide +kernel
theorem dX9_refuse_9 : decode cX9_refuse 9 = .ok (.putfield 93, 3) := by decide +kernel
theorem dX9_refuse_12 : decode cX9_refuse 12 = .ok (.aload_n 0, 1) := by decide +kernel
theorem dX9_refuse_13 : decode cX9_refuse 13 = .ok (.iload_n 2, 1) := by decide +kernel
theorem dX9_refuse_14 : decode cX9_refuse 14 = .ok (.putfield 96, 3) := by decide +kernel
theorem dX9_refuse_17 : decode cX9_refuse 17 = .ok (.return_, 1) := by decide +kernel
abbrev cs_t_X9_refuse_0 (cB cI cJ cZ : ClassId) (h0 hQ hKi hPl hNu : Nat) (kf pf : Nat → Int32) (vf : Nat → Int64) (fl pl : Int32) (w2 w3 : Value) (i4 i5 : Int32) (w6 : Value) (x1 z1 : Nat) (w10 : Value) (i11 : Int32) (y3 : Value) (j4 j5 : Int32) (y6 : Value) (a1 a2 : Int32) : va_W := [(h0, .inr (10, [.int fl, .int pl, w2, w3, .int i4, .int i5, w6, .ref hQ, .int (nI x1), .int (nI z1), w10, .int i11])), (hQ, .inr (11, [.ref hKi, .ref hPl, .ref hNu, y3, .int j4, .int j5, y6])), (hKi, .inl (cI, 2001, .inl kf)), (hPl, .inl (cI, 2001, .inl pf)), (hNu, .inl (cJ, 2001, .inr (.inl vf)))]
abbrev pc_t_X9_refuse_0 (dC : Nat → ClassId) (dI : Nat → Nat → Nat) (sz : Nat) (cB cI cJ cZ : ClassId) (h0 hQ hKi hPl hNu : Nat) (kf pf : Nat → Int32) (vf : Nat → Int64) (fl pl : Int32) (w2 w3 : Value) (i4 i5 : Int32) (w6 : Value) (x1 z1 : Nat) (w10 : Value) (i11 : Int32) (y3 : Value) (j4 j5 : Int32) (y6 : Value) (a1 a2 : Int32) : Array Value → State → Prop := va_Pc [.ref h0, .int a1, .int a2] (fun U => U.heap.size = sz ∧ va_P (dC, dI) vwCl [(h0, .inr (10, [.int fl, .int pl, w2, w3, .int i4, .int i5, w6, .ref hQ, .int (nI x1), .int (nI z1), w10, .int i11])), (hQ, .inr (11, [.ref hKi, .ref hPl, .ref hNu, y3, .int j4, .int j5, y6])), (hKi, .inl (cI, 2001, .inl kf)), (hPl, .inl (cI, 2001, .inl pf)), (hNu, .inl (cJ, 2001, .inr (.inl vf)))] U.heap ∧ va_K (dC, dI) vwCl [(cB, .byte), (cI, .int), (cJ, .long), (cZ, .boolean)] U ∧ va_D (fun _ => True) [(h0, .inr (10, [.int fl, .int pl, w2, w3, .int i4, .int i5, w6, .ref hQ, .int (nI x1), .int (nI z1), w10, .int i11])), (hQ, .inr (11, [.ref hKi, .ref hPl, .ref hNu, y3, .int j4, .int j5, y6])), (hKi, .inl (cI, 2001, .inl kf)), (hPl, .inl (cI, 2001, .inl pf)), (hNu, .inl (cJ, 2001, .inr (.inl vf)))])
abbrev qc_t_X9_refuse_0 (dC : Nat → ClassId) (dI : Nat → Nat → Nat) (cB cI cJ cZ : ClassId) (h0 hQ hKi hPl hNu : Nat) (kf pf : Nat → Int32) (vf : Nat → Int64) (fl pl : Int32) (w2 w3 : Value) (i4 i5 : Int32) (w6 : Value) (x1 z1 : Nat) (w10 : Value) (i11 : Int32) (y3 : Value) (j4 j5 : Int32) (y6 : Value) (a1 a2 : Int32) (A : Nat → Prop) : Array Value → State → Outcome → State → Prop := va_Qv (fun (u : Unit) => match u with | _ => True) (fun (u : Unit) t_ => match u with | _ => va_P (dC, dI) vwCl [(h0, .inr (10, [.int a1, .int a2, w2, w3, .int i4, .int i5, w6, .ref hQ, .int (nI x1), .int (nI z1), w10, .int i11])), (hQ, .inr (11, [.ref hKi, .ref hPl, .ref hNu, y3, .int j4, .int j5, y6])), (hKi, .inl (cI, 2001, .inl kf)), (hPl, .inl (cI, 2001, .inl pf)), (hNu, .inl (cJ, 2001, .inr (.inl vf)))] t_.heap ∧ va_K (dC, dI) vwCl [(cB, .byte), (cI, .int), (cJ, .long), (cZ, .boolean)] t_ ∧ va_D A [(h0, .inr (10, [.int a1, .int a2, w2, w3, .int i4, .int i5, w6, .ref hQ, .int (nI x1), .int (nI z1), w10, .int i11])), (hQ, .inr (11, [.ref hKi, .ref hPl, .ref hNu, y3, .int j4, .int j5, y6])), (hKi, .inl (cI, 2001, .inl kf)), (hPl, .inl (cI, 2001, .inl pf)), (hNu, .inl (cJ, 2001, .inr (.inl vf)))]) A
set_option maxHeartbeats 4000000 in
set_option maxRecDepth 100000 in
theorem t_X9_refuse_0 (l : Launch) (dC : Nat → ClassId) (dI : Nat → Nat → Nat) (sz : Nat) (cB cI cJ cZ : ClassId) (h0 hQ hKi hPl hNu : Nat) (kf pf : Nat → Int32) (vf : Nat → Int64) (fl pl : Int32) (w2 w3 : Value) (i4 i5 : Int32) (w6 : Value) (x1 z1 : Nat) (w10 : Value) (i11 : Int32) (y3 : Value) (j4 j5 : Int32) (y6 : Value) (a1 a2 : Int32) (hfl : fl = 0) : Met l yX9_refuse (wsOf yX9_refuse cX9_refuse 3 none) ({ frames := 0, cells := 0, slots := 0, locals := 0 }) (pc_t_X9_refuse_0 dC dI sz cB cI cJ cZ h0 hQ hKi hPl hNu kf pf vf fl pl w2 w3 i4 i5 w6 x1 z1 w10 i11 y3 j4 j5 y6 a1 a2) (qc_t_X9_refuse_0 dC dI cB cI cJ cZ h0 hQ hKi hPl hNu kf pf vf fl pl w2 w3 i4 i5 w6 x1 z1 w10 i11 y3 j4 j5 y6 a1 a2 (va_A (cs_t_X9_refuse_0 cB cI cJ cZ h0 hQ hKi hPl hNu kf pf vf fl pl w2 w3 i4 i5 w6 x1 z1 w10 i11 y3 j4 j5 y6 a1 a2) sz)) 0 0 (va_A (cs_t_X9_refuse_0 cB cI cJ cZ h0 hQ hKi hPl hNu kf pf vf fl pl w2 w3 i4 i5 w6 x1 z1 w10 i11 y3 j4 j5 y6 a1 a2) sz) := by
  refine Met.ofW (cc := cX9_refuse) (maxL := 3) (ret := none) (by decide) rfl ?_
  intro p e s m args below meth c s₁ B hml hv
  obtain ⟨rfl, hsz, hP, hK, hD0⟩ := hv
  have hx := B.exec
  have hb := B.bytes
  have hr := B.returns
  have hts := atoms_spec (ws := (wsOf yX9_refuse cX9_refuse 3 none)) B.pre
  have hown : s.vm.findClass RX9 = some m.cls := findClass_of_methodNamed B.named
  have hlocks := B.notSynchronized
  subst hsz
  have hD := hD0.self (sz := s.heap.size)
  generalize hAe : va_A (cs_t_X9_refuse_0 cB cI cJ cZ h0 hQ hKi hPl hNu kf pf vf fl pl w2 w3 i4 i5 w6 x1 z1 w10 i11 y3 j4 j5 y6 a1 a2) s.heap.size = A at hD ⊢
  have hA : ∀ q : Nat, s.heap.size ≤ q → A q := fun q h => by rw [← hAe]; exact Or.inr h
  have hS : va_S A s.heap s.heap [] := va_S.rf
  have hP : va_P (dC, dI) vwCl [(h0, .inr (10, [.int fl, .int pl, w2, w3, .int i4, .int i5, w6, .ref hQ, .int (nI x1), .int (nI z1), w10, .int i11])), (hQ, .inr (11, [.ref hKi, .ref hPl, .ref hNu, y3, .int j4, .int j5, y6])), (hKi, .inl (cI, 2001, .inl kf)), (hPl, .inl (cI, 2001, .inl pf)), (hNu, .inl (cJ, 2001, .inr (.inl vf)))] s.heap := hP
  have hl := lv_entry ([.ref h0, .int a1, .int a2]) (n := 3) (Nat.le_of_ble_eq_true rfl)
  rw [lg_entry_eq]
  generalize (lg_sl ([.ref h0, .int a1, .int a2]) ++ List.replicate (3 - (lg_sl ([.ref h0, .int a1, .int a2])).length) Slot.unset).toArray = ls at hl ⊢
  have hl : lv_has ls 3 [(0, .ref h0), (1, .int a1), (2, .int a2)] := hl
  refine lv_aload_n hx hb dX9_refuse_0 rfl (lv_at hl 0 rfl) ?_
  refine va_get (D := (dC, dI)) (ci := 10) (v := .int fl) (C := RX9) (T := TX9) (N := 12) hx hb hts (fun w h => List.mem_cons_of_mem _ (uG_X9 w h)) hown hK hP 0 rfl rfl 0 (by decide) (hts _ (List.mem_cons_of_mem _ kw_855)) (fun _ h9 => h9) rfl dX9_refuse_1 ?_
  refine lv_if_ne (tgt := 17) hx hb dX9_refuse_4 (by decide) (fun c_1 => ?_) (fun c_1 => ?_)
  · skip
    exact absurd hfl c_1
  · skip
    refine lv_aload_n hx hb dX9_refuse_7 rfl (lv_at hl 0 rfl) ?_
    refine lv_iload_n hx hb dX9_refuse_8 rfl (lv_at hl 1 rfl) ?_
    refine va_put (D := (dC, dI)) (ci := 10) (v := .int a1) (ty := .int) (C := RX9) (T := TX9) (N := 12) hx hb hts (fun w h => List.mem_cons_of_mem _ (uG_X9 w h)) tyX9 tyX9_ok nmX9 hown hK hP hD hS 0 rfl rfl 0 (by decide) (hts _ (List.mem_cons_of_mem _ kw_855)) (fun _ h9 => h9) rfl (by decide +kernel) rfl rfl (Nat.le_of_ble_eq_true rfl) dX9_refuse_9 (fun H locs hP hD hS => ?_)
    have hP : va_P (dC, dI) vwCl [(h0, .inr (10, [.int a1, .int pl, w2, w3, .int i4, .int i5, w6, .ref hQ, .int (nI x1), .int (nI z1), w10, .int i11])), (hQ, .inr (11, [.ref hKi, .ref hPl, .ref hNu, y3, .int j4, .int j5, y6])), (hKi, .inl (cI, 2001, .inl kf)), (hPl, .inl (cI, 2001, .inl pf)), (hNu, .inl (cJ, 2001, .inr (.inl vf)))] H := hP
    have hD : va_D A [(h0, .inr (10, [.int a1, .int pl, w2, w3, .int i4, .int i5, w6, .ref hQ, .int (nI x1), .int (nI z1), w10, .int i11])), (hQ, .inr (11, [.ref hKi, .ref hPl, .ref hNu, y3, .int j4, .int j5, y6])), (hKi, .inl (cI, 2001, .inl kf)), (hPl, .inl (cI, 2001, .inl pf)), (hNu, .inl (cJ, 2001, .inr (.inl vf)))] := hD
    refine lv_aload_n hx hb dX9_refuse_12 rfl (lv_at hl 0 rfl) ?_
    refine lv_iload_n hx hb dX9_refuse_13 rfl (lv_at hl 2 rfl) ?_
    refine va_put (D := (dC, dI)) (ci := 10) (v := .int a2) (ty := .int) (C := RX9) (T := TX9) (N := 12) hx hb hts (fun w h => List.mem_cons_of_mem _ (uG_X9 w h)) tyX9 tyX9_ok nmX9 hown hK hP hD hS 0 rfl rfl 1 (by decide) (hts _ (List.mem_cons_of_mem _ kw_857)) (fun _ h9 => h9) rfl (by decide +kernel) rfl rfl (Nat.le_of_ble_eq_true rfl) dX9_refuse_14 (fun H locs hP hD hS => ?_)
    have hP : va_P (dC, dI) vwCl [(h0, .inr (10, [.int a1, .int a2, w2, w3, .int i4, .int i5, w6, .ref hQ, .int (nI x1), .int (nI z1), w10, .int i11])), (hQ, .inr (11, [.ref hKi, .ref hPl, .ref hNu, y3, .int j4, .int j5, y6])), (hKi, .inl (cI, 2001, .inl kf)), (hPl, .inl (cI, 2001, .inl pf)), (hNu, .inl (cJ, 2001, .inr (.inl vf)))] H := hP
    have hD : va_D A [(h0, .inr (10, [.int a1, .int a2, w2, w3, .int i4, .int i5, w6, .ref hQ, .int (nI x1), .int (nI z1), w10, .int i11])), (hQ, .inr (11, [.ref hKi, .ref hPl, .ref hNu, y3, .int j4, .int j5, y6])), (hKi, .inl (cI, 2001, .inl kf)), (hPl, .inl (cI, 2001, .inl pf)), (hNu, .inl (cJ, 2001, .inr (.inl vf)))] := hD
    have hP9 := hP.sub (ws' := [(h0, .inr (10, [.int a1, .int a2, w2, w3, .int i4, .int i5, w6, .ref hQ, .int (nI x1), .int (nI z1), w10, .int i11])), (hQ, .inr (11, [.ref hKi, .ref hPl, .ref hNu, y3, .int j4, .int j5, y6])), (hKi, .inl (cI, 2001, .inl kf)), (hPl, .inl (cI, 2001, .inl pf)), (hNu, .inl (cJ, 2001, .inr (.inl vf)))]) [0, 1, 2, 3, 4] rfl
    have hD9 := hD.sub (ws' := [(h0, .inr (10, [.int a1, .int a2, w2, w3, .int i4, .int i5, w6, .ref hQ, .int (nI x1), .int (nI z1), w10, .int i11])), (hQ, .inr (11, [.ref hKi, .ref hPl, .ref hNu, y3, .int j4, .int j5, y6])), (hKi, .inl (cI, 2001, .inl kf)), (hPl, .inl (cI, 2001, .inl pf)), (hNu, .inl (cJ, 2001, .inr (.inl vf)))]) [0, 1, 2, 3, 4] (by decide) rfl
    have hK9 := hK.sub (tys' := [(cB, .byte), (cI, .int), (cJ, .long), (cZ, .boolean)]) [0, 1, 2, 3] rfl
    exact W.vret hx hb hr (fun t_ ht hW => ⟨⟨(), rfl, trivial, by rw [ht]; exact hP9, va_K.moved hW.alike hK9, hD9⟩, hS.F ht⟩) hS.2.2 dX9_refuse_17
abbrev cs_t_X9_refuse_1 (cB cI cJ cZ : ClassId) (h0 hQ hKi hPl hNu : Nat) (kf pf : Nat → Int32) (vf : Nat → Int64) (fl pl : Int32) (w2 w3 : Value) (i4 i5 : Int32) (w6 : Value) (x1 z1 : Nat) (w10 : Value) (i11 : Int32) (y3 : Value) (j4 j5 : Int32) (y6 : Value) (a1 a2 : Int32) : va_W := [(h0, .inr (10, [.int fl, .int pl, w2, w3, .int i4, .int i5, w6, .ref hQ, .int (nI x1), .int (nI z1), w10, .int i11])), (hQ, .inr (11, [.ref hKi, .ref hPl, .ref hNu, y3, .int j4, .int j5, y6])), (hKi, .inl (cI, 2001, .inl kf)), (hPl, .inl (cI, 2001, .inl pf)), (hNu, .inl (cJ, 2001, .inr (.inl vf)))]
abbrev pc_t_X9_refuse_1 (dC : Nat → ClassId) (dI : Nat → Nat → Nat) (sz : Nat) (cB cI cJ cZ : ClassId) (h0 hQ hKi hPl hNu : Nat) (kf pf : Nat → Int32) (vf : Nat → Int64) (fl pl : Int32) (w2 w3 : Value) (i4 i5 : Int32) (w6 : Value) (x1 z1 : Nat) (w10 : Value) (i11 : Int32) (y3 : Value) (j4 j5 : Int32) (y6 : Value) (a1 a2 : Int32) : Array Value → State → Prop := va_Pc [.ref h0, .int a1, .int a2] (fun U => U.heap.size = sz ∧ va_P (dC, dI) vwCl [(h0, .inr (10, [.int fl, .int pl, w2, w3, .int i4, .int i5, w6, .ref hQ, .int (nI x1), .int (nI z1), w10, .int i11])), (hQ, .inr (11, [.ref hKi, .ref hPl, .ref hNu, y3, .int j4, .int j5, y6])), (hKi, .inl (cI, 2001, .inl kf)), (hPl, .inl (cI, 2001, .inl pf)), (hNu, .inl (cJ, 2001, .inr (.inl vf)))] U.heap ∧ va_K (dC, dI) vwCl [(cB, .byte), (cI, .int), (cJ, .long), (cZ, .boolean)] U ∧ va_D (fun _ => True) [(h0, .inr (10, [.int fl, .int pl, w2, w3, .int i4, .int i5, w6, .ref hQ, .int (nI x1), .int (nI z1), w10, .int i11])), (hQ, .inr (11, [.ref hKi, .ref hPl, .ref hNu, y3, .int j4, .int j5, y6])), (hKi, .inl (cI, 2001, .inl kf)), (hPl, .inl (cI, 2001, .inl pf)), (hNu, .inl (cJ, 2001, .inr (.inl vf)))])
abbrev qc_t_X9_refuse_1 (dC : Nat → ClassId) (dI : Nat → Nat → Nat) (cB cI cJ cZ : ClassId) (h0 hQ hKi hPl hNu : Nat) (kf pf : Nat → Int32) (vf : Nat → Int64) (fl pl : Int32) (w2 w3 : Value) (i4 i5 : Int32) (w6 : Value) (x1 z1 : Nat) (w10 : Value) (i11 : Int32) (y3 : Value) (j4 j5 : Int32) (y6 : Value) (a1 a2 : Int32) (A : Nat → Prop) : Array Value → State → Outcome → State → Prop := va_Qv (fun (u : Unit) => match u with | _ => True) (fun (u : Unit) t_ => match u with | _ => va_P (dC, dI) vwCl [(h0, .inr (10, [.int fl, .int pl, w2, w3, .int i4, .int i5, w6, .ref hQ, .int (nI x1), .int (nI z1), w10, .int i11])), (hQ, .inr (11, [.ref hKi, .ref hPl, .ref hNu, y3, .int j4, .int j5, y6])), (hKi, .inl (cI, 2001, .inl kf)), (hPl, .inl (cI, 2001, .inl pf)), (hNu, .inl (cJ, 2001, .inr (.inl vf)))] t_.heap ∧ va_K (dC, dI) vwCl [(cB, .byte), (cI, .int), (cJ, .long), (cZ, .boolean)] t_ ∧ va_D A [(h0, .inr (10, [.int fl, .int pl, w2, w3, .int i4, .int i5, w6, .ref hQ, .int (nI x1), .int (nI z1), w10, .int i11])), (hQ, .inr (11, [.ref hKi, .ref hPl, .ref hNu, y3, .int j4, .int j5, y6])), (hKi, .inl (cI, 2001, .inl kf)), (hPl, .inl (cI, 2001, .inl pf)), (hNu, .inl (cJ, 2001, .inr (.inl vf)))]) A
set_option maxHeartbeats 4000000 in
set_option maxRecDepth 100000 in
theorem t_X9_refuse_1 (l : Launch) (dC : Nat → ClassId) (dI : Nat → Nat → Nat) (sz : Nat) (cB cI cJ cZ : ClassId) (h0 hQ hKi hPl hNu : Nat) (kf pf : Nat → Int32) (vf : Nat → Int64) (fl pl : Int32) (w2 w3 : Value) (i4 i5 : Int32) (w6 : Value) (x1 z1 : Nat) (w10 : Value) (i11 : Int32) (y3 : Value) (j4 j5 : Int32) (y6 : Value) (a1 a2 : Int32) (hfl : ¬ fl = 0) : Met l yX9_refuse (wsOf yX9_refuse cX9_refuse 3 none) ({ frames := 0, cells := 0, slots := 0, locals := 0 }) (pc_t_X9_refuse_1 dC dI sz cB cI cJ cZ h0 hQ hKi hPl hNu kf pf vf fl pl w2 w3 i4 i5 w6 x1 z1 w10 i11 y3 j4 j5 y6 a1 a2) (qc_t_X9_refuse_1 dC dI cB cI cJ cZ h0 hQ hKi hPl hNu kf pf vf fl pl w2 w3 i4 i5 w6 x1 z1 w10 i11 y3 j4 j5 y6 a1 a2 (va_A (cs_t_X9_refuse_1 cB cI cJ cZ h0 hQ hKi hPl hNu kf pf vf fl pl w2 w3 i4 i5 w6 x1 z1 w10 i11 y3 j4 j5 y6 a1 a2) sz)) 0 0 (va_A (cs_t_X9_refuse_1 cB cI cJ cZ h0 hQ hKi hPl hNu kf pf vf fl pl w2 w3 i4 i5 w6 x1 z1 w10 i11 y3 j4 j5 y6 a1 a2) sz) := by
  refine Met.ofW (cc := cX9_refuse) (maxL := 3) (ret := none) (by decide) rfl ?_
  intro p e s m args below meth c s₁ B hml hv
  obtain ⟨rfl, hsz, hP, hK, hD0⟩ := hv
  have hx := B.exec
  have hb := B.bytes
  have hr := B.returns
  have hts := atoms_spec (ws := (wsOf yX9_refuse cX9_refuse 3 none)) B.pre
  have hown : s.vm.findClass RX9 = some m.cls := findClass_of_methodNamed B.named
  have hlocks := B.notSynchronized
  subst hsz
  have hD := hD0.self (sz := s.heap.size)
  generalize hAe : va_A (cs_t_X9_refuse_1 cB cI cJ cZ h0 hQ hKi hPl hNu kf pf vf fl pl w2 w3 i4 i5 w6 x1 z1 w10 i11 y3 j4 j5 y6 a1 a2) s.heap.size = A at hD ⊢
  have hA : ∀ q : Nat, s.heap.size ≤ q → A q := fun q h => by rw [← hAe]; exact Or.inr h
  have hS : va_S A s.heap s.heap [] := va_S.rf
  have hP : va_P (dC, dI) vwCl [(h0, .inr (10, [.int fl, .int pl, w2, w3, .int i4, .int i5, w6, .ref hQ, .int (nI x1), .int (nI z1), w10, .int i11])), (hQ, .inr (11, [.ref hKi, .ref hPl, .ref hNu, y3, .int j4, .int j5, y6])), (hKi, .inl (cI, 2001, .inl kf)), (hPl, .inl (cI, 2001, .inl pf)), (hNu, .inl (cJ, 2001, .inr (.inl vf)))] s.heap := hP
  have hl := lv_entry ([.ref h0, .int a1, .int a2]) (n := 3) (Nat.le_of_ble_eq_true rfl)
  rw [lg_entry_eq]
  generalize (lg_sl ([.ref h0, .int a1, .int a2]) ++ List.replicate (3 - (lg_sl ([.ref h0, .int a1, .int a2])).length) Slot.unset).toArray = ls at hl ⊢
  have hl : lv_has ls 3 [(0, .ref h0), (1, .int a1), (2, .int a2)] := hl
  refine lv_aload_n hx hb dX9_refuse_0 rfl (lv_at hl 0 rfl) ?_
  refine va_get (D := (dC, dI)) (ci := 10) (v := .int fl) (C := RX9) (T := TX9) (N := 12) hx hb hts (fun w h => List.mem_cons_of_mem _ (uG_X9 w h)) hown hK hP 0 rfl rfl 0 (by decide) (hts _ (List.mem_cons_of_mem _ kw_855)) (fun _ h9 => h9) rfl dX9_refuse_1 ?_
  refine lv_if_ne (tgt := 17) hx hb dX9_refuse_4 (by decide) (fun c_1 => ?_) (fun c_1 => ?_)
  · skip
    have hP9 := hP.sub (ws' := [(h0, .inr (10, [.int fl, .int pl, w2, w3, .int i4, .int i5, w6, .ref hQ, .int (nI x1), .int (nI z1), w10, .int i11])), (hQ, .inr (11, [.ref hKi, .ref hPl, .ref hNu, y3, .int j4, .int j5, y6])), (hKi, .inl (cI, 2001, .inl kf)), (hPl, .inl (cI, 2001, .inl pf)), (hNu, .inl (cJ, 2001, .inr (.inl vf)))]) [0, 1, 2, 3, 4] rfl
    have hD9 := hD.sub (ws' := [(h0, .inr (10, [.int fl, .int pl, w2, w3, .int i4, .int i5, w6, .ref hQ, .int (nI x1), .int (nI z1), w10, .int i11])), (hQ, .inr (11, [.ref hKi, .ref hPl, .ref hNu, y3, .int j4, .int j5, y6])), (hKi, .inl (cI, 2001, .inl kf)), (hPl, .inl (cI, 2001, .inl pf)), (hNu, .inl (cJ, 2001, .inr (.inl vf)))]) [0, 1, 2, 3, 4] (by decide) rfl
    have hK9 := hK.sub (tys' := [(cB, .byte), (cI, .int), (cJ, .long), (cZ, .boolean)]) [0, 1, 2, 3] rfl
    exact W.vret hx hb hr (fun t_ ht hW => ⟨⟨(), rfl, trivial, by rw [ht]; exact hP9, va_K.moved hW.alike hK9, hD9⟩, hS.F ht⟩) hS.2.2 dX9_refuse_17
  · skip
    exact absurd c_1 hfl
theorem dX9_accept_0 : decode cX9_accept 0 = .ok (.aload_n 0, 1) := by decide +kernel
theorem dX9_accept_1 : decode cX9_accept 1 = .ok (.invokevirtual 114, 3) := by decide +kernel
theorem dX9_accept_4 : decode cX9_accept 4 = .ok (.iload_n 1, 1) := by decide +kernel
theorem dX9_accept_5 : decode cX9_accept 5 = .ok (.if_icmp .ne 7, 3) := by decide +kernel
theorem dX9_accept_12 : decode cX9_accept 12 = .ok (.iconst 0, 1) := by decide +kernel
theorem dX9_accept_13 : decode cX9_accept 13 = .ok (.istore_n 2, 1) := by decide +kernel
theorem dX9_accept_14 : decode cX9_accept 14 = .ok (.aload_n 0, 1) := by decide +kernel
theorem dX9_accept_15 : decode cX9_accept 15 = .ok (.dup, 1) := by decide +kernel
theorem dX9_accept_16 : decode cX9_accept 16 = .ok (.getfield 99, 3) := by decide +kernel
theorem dX9_accept_19 : decode cX9_accept 19 = .ok (.iload_n 2, 1) := by decide +kernel
theorem dX9_accept_20 : decode cX9_accept 20 = .ok (.ifCond .eq 7, 3) := by decide +kernel
theorem dX9_accept_27 : decode cX9_accept 27 = .ok (.iconst 0, 1) := by decide +kernel
theorem dX9_accept_28 : decode cX9_accept 28 = .ok (.iadd, 1) := by decide +kernel
theorem dX9_accept_29 : decode cX9_accept 29 = .ok (.putfield 99, 3) := by decide +kernel
theorem dX9_accept_32 : decode cX9_accept 32 = .ok (.iload_n 2, 1) := by decide +kernel
theorem dX9_accept_33 : decode cX9_accept 33 = .ok (.ireturn, 1) := by decide +kernel
abbrev cs_t_X9_accept_n (cB cI cJ cZ : ClassId) (h0 hQ hKi hPl hNu : Nat) (kf pf : Nat → Int32) (vf : Nat → Int64) (fl pl : Int32) (w2 w3 : Value) (i4 i5 : Int32) (w6 : Value) (x1 z1 : Nat) (w10 : Value) (i11 : Int32) (y3 : Value) (j4 j5 : Int32) (y6 : Value) (y1 : Int32) : va_W := [(h0, .inr (10, [.int fl, .int pl, w2, w3, .int i4, .int i5, w6, .ref hQ, .int (nI x1), .int (nI z1), w10, .int i11])), (hQ, .inr (11, [.ref hKi, .ref hPl, .ref hNu, y3, .int j4, .int j5, y6])), (hKi, .inl (cI, 2001, .inl kf)), (hPl, .inl (cI, 2001, .inl pf)), (hNu, .inl (cJ, 2001, .inr (.inl vf)))]
abbrev pc_t_X9_accept_n (dC : Nat → ClassId) (dI : Nat → Nat → Nat) (sz : Nat) (cB cI cJ cZ : ClassId) (h0 hQ hKi hPl hNu : Nat) (kf pf : Nat → Int32) (vf : Nat → Int64) (fl pl : Int32) (w2 w3 : Value) (i4 i5 : Int32) (w6 : Value) (x1 z1 : Nat) (w10 : Value) (i11 : Int32) (y3 : Value) (j4 j5 : Int32) (y6 : Value) (y1 : Int32) : Array Value → State → Prop := va_Pc [.ref h0, .int y1] (fun U => U.heap.size = sz ∧ va_P (dC, dI) vwCl [(h0, .inr (10, [.int fl, .int pl, w2, w3, .int i4, .int i5, w6, .ref hQ, .int (nI x1), .int (nI z1), w10, .int i11])), (hQ, .inr (11, [.ref hKi, .ref hPl, .ref hNu, y3, .int j4, .int j5, y6])), (hKi, .inl (cI, 2001, .inl kf)), (hPl, .inl (cI, 2001, .inl pf)), (hNu, .inl (cJ, 2001, .inr (.inl vf)))] U.heap ∧ va_K (dC, dI) vwCl [(cB, .byte), (cI, .int), (cJ, .long), (cZ, .boolean)] U ∧ va_D (fun _ => True) [(h0, .inr (10, [.int fl, .int pl, w2, w3, .int i4, .int i5, w6, .ref hQ, .int (nI x1), .int (nI z1), w10, .int i11])), (hQ, .inr (11, [.ref hKi, .ref hPl, .ref hNu, y3, .int j4, .int j5, y6])), (hKi, .inl (cI, 2001, .inl kf)), (hPl, .inl (cI, 2001, .inl pf)), (hNu, .inl (cJ, 2001, .inr (.inl vf)))])
abbrev qc_t_X9_accept_n (dC : Nat → ClassId) (dI : Nat → Nat → Nat) (cB cI cJ cZ : ClassId) (h0 hQ hKi hPl hNu : Nat) (kf pf : Nat → Int32) (vf : Nat → Int64) (fl pl : Int32) (w2 w3 : Value) (i4 i5 : Int32) (w6 : Value) (x1 z1 : Nat) (w10 : Value) (i11 : Int32) (y3 : Value) (j4 j5 : Int32) (y6 : Value) (y1 : Int32) (A : Nat → Prop) : Array Value → State → Outcome → State → Prop := va_Qi (fun (r : Int32) (u : Unit) => match u with | _ => r = 0) (fun (u : Unit) t_ => match u with | _ => va_P (dC, dI) vwCl [(h0, .inr (10, [.int fl, .int pl, w2, w3, .int i4, .int i5, w6, .ref hQ, .int (nI (x1 + 0)), .int (nI z1), w10, .int i11])), (hQ, .inr (11, [.ref hKi, .ref hPl, .ref hNu, y3, .int j4, .int j5, y6])), (hKi, .inl (cI, 2001, .inl kf)), (hPl, .inl (cI, 2001, .inl pf)), (hNu, .inl (cJ, 2001, .inr (.inl vf)))] t_.heap ∧ va_K (dC, dI) vwCl [(cB, .byte), (cI, .int), (cJ, .long), (cZ, .boolean)] t_ ∧ va_D A [(h0, .inr (10, [.int fl, .int pl, w2, w3, .int i4, .int i5, w6, .ref hQ, .int (nI (x1 + 0)), .int (nI z1), w10, .int i11])), (hQ, .inr (11, [.ref hKi, .ref hPl, .ref hNu, y3, .int j4, .int j5, y6])), (hKi, .inl (cI, 2001, .inl kf)), (hPl, .inl (cI, 2001, .inl pf)), (hNu, .inl (cJ, 2001, .inr (.inl vf)))]) A
set_option maxHeartbeats 4000000 in
set_option maxRecDepth 100000 in
theorem t_X9_accept_n (l : Launch) (dC : Nat → ClassId) (dI : Nat → Nat → Nat) (sz : Nat) (cB cI cJ cZ : ClassId) (h0 hQ hKi hPl hNu : Nat) (kf pf : Nat → Int32) (vf : Nat → Int64) (fl pl : Int32) (w2 w3 : Value) (i4 i5 : Int32) (w6 : Value) (x1 z1 : Nat) (w10 : Value) (i11 : Int32) (y3 : Value) (j4 j5 : Int32) (y6 : Value) (y1 : Int32) (hx1 : x1 ≤ 2000) (hy : ¬ kdF fl kf x1 = y1) : Met l yX9_accept (wsOf yX9_accept cX9_accept 3 (some .boolean)) ({ frames := 1, cells := 0, slots := 0, locals := 60 }) (pc_t_X9_accept_n dC dI sz cB cI cJ cZ h0 hQ hKi hPl hNu kf pf vf fl pl w2 w3 i4 i5 w6 x1 z1 w10 i11 y3 j4 j5 y6 y1) (qc_t_X9_accept_n dC dI cB cI cJ cZ h0 hQ hKi hPl hNu kf pf vf fl pl w2 w3 i4 i5 w6 x1 z1 w10 i11 y3 j4 j5 y6 y1 (va_A (cs_t_X9_accept_n cB cI cJ cZ h0 hQ hKi hPl hNu kf pf vf fl pl w2 w3 i4 i5 w6 x1 z1 w10 i11 y3 j4 j5 y6 y1) sz)) 0 0 (va_A (cs_t_X9_accept_n cB cI cJ cZ h0 hQ hKi hPl hNu kf pf vf fl pl w2 w3 i4 i5 w6 x1 z1 w10 i11 y3 j4 j5 y6 y1) sz) := by
  refine Met.ofW (cc := cX9_accept) (maxL := 3) (ret := (some .boolean)) (by decide) rfl ?_
  intro p e s m args below meth c s₁ B hml hv
  obtain ⟨rfl, hsz, hP, hK, hD0⟩ := hv
  have hx := B.exec
  have hb := B.bytes
  have hr := B.returns
  have hts := atoms_spec (ws := (wsOf yX9_accept cX9_accept 3 (some .boolean))) B.pre
  have hown : s.vm.findClass RX9 = some m.cls := findClass_of_methodNamed B.named
  have hlocks := B.notSynchronized
  subst hsz
  have hD := hD0.self (sz := s.heap.size)
  generalize hAe : va_A (cs_t_X9_accept_n cB cI cJ cZ h0 hQ hKi hPl hNu kf pf vf fl pl w2 w3 i4 i5 w6 x1 z1 w10 i11 y3 j4 j5 y6 y1) s.heap.size = A at hD ⊢
  have hA : ∀ q : Nat, s.heap.size ≤ q → A q := fun q h => by rw [← hAe]; exact Or.inr h
  have hS : va_S A s.heap s.heap [] := va_S.rf
  have hP : va_P (dC, dI) vwCl [(h0, .inr (10, [.int fl, .int pl, w2, w3, .int i4, .int i5, w6, .ref hQ, .int (nI x1), .int (nI z1), w10, .int i11])), (hQ, .inr (11, [.ref hKi, .ref hPl, .ref hNu, y3, .int j4, .int j5, y6])), (hKi, .inl (cI, 2001, .inl kf)), (hPl, .inl (cI, 2001, .inl pf)), (hNu, .inl (cJ, 2001, .inr (.inl vf)))] s.heap := hP
  have hl := lv_entry ([.ref h0, .int y1]) (n := 3) (Nat.le_of_ble_eq_true rfl)
  rw [lg_entry_eq]
  generalize (lg_sl ([.ref h0, .int y1]) ++ List.replicate (3 - (lg_sl ([.ref h0, .int y1])).length) Slot.unset).toArray = ls at hl ⊢
  have hl : lv_has ls 3 [(0, .ref h0), (1, .int y1)] := hl
  refine lv_aload_n hx hb dX9_accept_0 rfl (lv_at hl 0 rfl) ?_
  have hPc := hP.sub (ws' := [(h0, .inr (10, [.int fl, .int pl, w2, w3, .int i4, .int i5, w6, .ref hQ, .int (nI x1), .int (nI z1), w10, .int i11])), (hQ, .inr (11, [.ref hKi, .ref hPl, .ref hNu, y3, .int j4, .int j5, y6])), (hKi, .inl (cI, 2001, .inl kf)), (hPl, .inl (cI, 2001, .inl pf)), (hNu, .inl (cJ, 2001, .inr (.inl vf)))]) [0, 1, 2, 3, 4] rfl
  have hDc := hD.sub (ws' := [(h0, .inr (10, [.int fl, .int pl, w2, w3, .int i4, .int i5, w6, .ref hQ, .int (nI x1), .int (nI z1), w10, .int i11])), (hQ, .inr (11, [.ref hKi, .ref hPl, .ref hNu, y3, .int j4, .int j5, y6])), (hKi, .inl (cI, 2001, .inl kf)), (hPl, .inl (cI, 2001, .inl pf)), (hNu, .inl (cJ, 2001, .inr (.inl vf)))]) [0, 1, 2, 3, 4] (by decide) rfl
  have hKc := hK.sub (tys' := [(cB, .byte), (cI, .int), (cJ, .long), (cZ, .boolean)]) [0, 1, 2, 3] rfl
  have hFc := va_free (wc := [(h0, .inr (10, [.int fl, .int pl, w2, w3, .int i4, .int i5, w6, .ref hQ, .int (nI x1), .int (nI z1), w10, .int i11])), (hQ, .inr (11, [.ref hKi, .ref hPl, .ref hNu, y3, .int j4, .int j5, y6])), (hKi, .inl (cI, 2001, .inl kf)), (hPl, .inl (cI, 2001, .inl pf)), (hNu, .inl (cJ, 2001, .inr (.inl vf)))]) hD hS hA [0, 1, 2, 3, 4] rfl
  refine va_calli (va_runV (As := []) (rest := []) ⟨hx, hb, hml, hown, hts⟩ (t_X9_kind l dC dI s.heap.size cB cI cJ cZ h0 hQ hKi hPl hNu kf pf vf fl pl w2 w3 i4 i5 w6 x1 z1 w10 i11 y3 j4 j5 y6 hx1) (cwV 0 hts (gd_all (in_V kw_907 kw_909 kw_12 kw_193 kc_X9_kind)) rfl rfl rfl (by decide +kernel) ⟨Nat.le_of_ble_eq_true rfl, Nat.le_of_ble_eq_true rfl⟩) ⟨fun a U g mk q => by obtain ⟨q0, q1, qP, qK, qD⟩ := q; exact ⟨q0, q1, qP, va_K.moved (u := U) (U := U.calling g mk a) (Vm.Alike.refl U.vm) qK, qD⟩, va_recv hKc hPc (ci := 10) (q0 := 0) rfl rfl, fun U hU hW => ⟨rfl, by rw [hU], by rw [hU]; exact hPc, va_K.moved hW.alike hKc, hDc.weaken (fun _ _ _ _ => trivial)⟩⟩ rfl rfl hl.1 rfl (lv_room (Nat.le_of_ble_eq_true rfl)) dX9_accept_1 ⟨Nat.le_of_ble_eq_true rfl, Nat.le_of_ble_eq_true rfl⟩) hS (fun q _ h => hFc q h) hFc (fun r_1 u t_ H1 locs ht hvm hw hB hz1 hk1 hS => ?_)
  obtain ⟨hP1, hK1, hD1⟩ := hB
  rw [ht] at hP1
  have hK1 := va_K.moved hvm.symm hK1
  obtain ⟨hP, hD⟩ := va_join (wr := []) (w1 := [(h0, .inr (10, [.int fl, .int pl, w2, w3, .int i4, .int i5, w6, .ref hQ, .int (nI x1), .int (nI z1), w10, .int i11])), (hQ, .inr (11, [.ref hKi, .ref hPl, .ref hNu, y3, .int j4, .int j5, y6])), (hKi, .inl (cI, 2001, .inl kf)), (hPl, .inl (cI, 2001, .inl pf)), (hNu, .inl (cJ, 2001, .inr (.inl vf)))]) hP hD [0, 1, 2, 3, 4] [] rfl rfl (by decide) (by decide) hk1 hFc hP1 hD1
  have hK := (hK.sub (tys' := []) [] rfl).app hK1
  generalize H1 = H at hP hS ⊢
  have hP : va_P (dC, dI) vwCl [(h0, .inr (10, [.int fl, .int pl, w2, w3, .int i4, .int i5, w6, .ref hQ, .int (nI x1), .int (nI z1), w10, .int i11])), (hQ, .inr (11, [.ref hKi, .ref hPl, .ref hNu, y3, .int j4, .int j5, y6])), (hKi, .inl (cI, 2001, .inl kf)), (hPl, .inl (cI, 2001, .inl pf)), (hNu, .inl (cJ, 2001, .inr (.inl vf)))] H := hP
  have hD : va_D A [(h0, .inr (10, [.int fl, .int pl, w2, w3, .int i4, .int i5, w6, .ref hQ, .int (nI x1), .int (nI z1), w10, .int i11])), (hQ, .inr (11, [.ref hKi, .ref hPl, .ref hNu, y3, .int j4, .int j5, y6])), (hKi, .inl (cI, 2001, .inl kf)), (hPl, .inl (cI, 2001, .inl pf)), (hNu, .inl (cJ, 2001, .inr (.inl vf)))] := hD
  have hK : va_K (dC, dI) vwCl [(cB, .byte), (cI, .int), (cJ, .long), (cZ, .boolean)] s := hK
  have er_1 : r_1 = kdF fl kf x1 := hw
  rw [er_1]
  refine lv_iload_n hx hb dX9_accept_4 rfl (lv_at hl 1 rfl) ?_
  refine lv_icmp_ne (tgt := 12) hx hb dX9_accept_5 (by decide) (fun c_2 => ?_) (fun c_2 => ?_)
  · skip
    refine lv_iconst (v := 0) hx hb dX9_accept_12 (by decide) ?_
    refine lv_istore_n (lv' := [(2, .int 0), (0, .ref h0), (1, .int y1)]) hx hb dX9_accept_13 rfl hl (by decide) rfl (fun ls hl => ?_)
    refine lv_aload_n hx hb dX9_accept_14 rfl (lv_at hl 1 rfl) ?_
    refine lv_dup hx hb dX9_accept_15 rfl ?_
    refine va_get (D := (dC, dI)) (ci := 10) (v := .int (nI x1)) (C := RX9) (T := TX9) (N := 12) hx hb hts (fun w h => List.mem_cons_of_mem _ (uG_X9 w h)) hown hK hP 0 rfl rfl 8 (by decide) (hts _ (List.mem_cons_of_mem _ kw_870)) (fun _ h9 => h9) rfl dX9_accept_16 ?_
    refine lv_iload_n hx hb dX9_accept_19 rfl (lv_at hl 0 rfl) ?_
    refine lv_if_eq (tgt := 27) hx hb dX9_accept_20 (by decide) (fun c_3 => ?_) (fun c_3 => ?_)
    · skip
      refine lv_iconst (v := 0) hx hb dX9_accept_27 (by decide) ?_
      refine lv_iadd hx hb dX9_accept_28 ?_
      refine lv_topi (fun x_4 ex_4 => ?_)
      have ex_4 : x_4 = nI (x1 + 0) := ex_4.trans (nI_add x1 0)
      subst ex_4
      refine va_put (D := (dC, dI)) (ci := 10) (v := .int (nI (x1 + 0))) (ty := .int) (C := RX9) (T := TX9) (N := 12) hx hb hts (fun w h => List.mem_cons_of_mem _ (uG_X9 w h)) tyX9 tyX9_ok nmX9 hown hK hP hD hS 0 rfl rfl 8 (by decide) (hts _ (List.mem_cons_of_mem _ kw_870)) (fun _ h9 => h9) rfl (by decide +kernel) rfl rfl (Nat.le_of_ble_eq_true rfl) dX9_accept_29 (fun H locs hP hD hS => ?_)
      have hP : va_P (dC, dI) vwCl [(h0, .inr (10, [.int fl, .int pl, w2, w3, .int i4, .int i5, w6, .ref hQ, .int (nI (x1 + 0)), .int (nI z1), w10, .int i11])), (hQ, .inr (11, [.ref hKi, .ref hPl, .ref hNu, y3, .int j4, .int j5, y6])), (hKi, .inl (cI, 2001, .inl kf)), (hPl, .inl (cI, 2001, .inl pf)), (hNu, .inl (cJ, 2001, .inr (.inl vf)))] H := hP
      have hD : va_D A [(h0, .inr (10, [.int fl, .int pl, w2, w3, .int i4, .int i5, w6, .ref hQ, .int (nI (x1 + 0)), .int (nI z1), w10, .int i11])), (hQ, .inr (11, [.ref hKi, .ref hPl, .ref hNu, y3, .int j4, .int j5, y6])), (hKi, .inl (cI, 2001, .inl kf)), (hPl, .inl (cI, 2001, .inl pf)), (hNu, .inl (cJ, 2001, .inr (.inl vf)))] := hD
      refine lv_iload_n hx hb dX9_accept_32 rfl (lv_at hl 0 rfl) ?_
      have hP9 := hP.sub (ws' := [(h0, .inr (10, [.int fl, .int pl, w2, w3, .int i4, .int i5, w6, .ref hQ, .int (nI (x1 + 0)), .int (nI z1), w10, .int i11])), (hQ, .inr (11, [.ref hKi, .ref hPl, .ref hNu, y3, .int j4, .int j5, y6])), (hKi, .inl (cI, 2001, .inl kf)), (hPl, .inl (cI, 2001, .inl pf)), (hNu, .inl (cJ, 2001, .inr (.inl vf)))]) [0, 1, 2, 3, 4] rfl
      have hD9 := hD.sub (ws' := [(h0, .inr (10, [.int fl, .int pl, w2, w3, .int i4, .int i5, w6, .ref hQ, .int (nI (x1 + 0)), .int (nI z1), w10, .int i11])), (hQ, .inr (11, [.ref hKi, .ref hPl, .ref hNu, y3, .int j4, .int j5, y6])), (hKi, .inl (cI, 2001, .inl kf)), (hPl, .inl (cI, 2001, .inl pf)), (hNu, .inl (cJ, 2001, .inr (.inl vf)))]) [0, 1, 2, 3, 4] (by decide) rfl
      have hK9 := hK.sub (tys' := [(cB, .byte), (cI, .int), (cJ, .long), (cZ, .boolean)]) [0, 1, 2, 3] rfl
      exact W.zret (v := 0) hx hb hr (by rfl) (fun t_ ht hW => ⟨⟨0, (), rfl, rfl, by rw [ht]; exact hP9, va_K.moved hW.alike hK9, hD9⟩, hS.F ht⟩) hS.2.2 dX9_accept_33
    · skip
      exact absurd c_3 (by decide)
  · skip
    exact absurd c_2 hy
theorem dX9_expect_0 : decode cX9_expect 0 = .ok (.aload_n 0, 1) := by decide +kernel
theorem dX9_expect_1 : decode cX9_expect 1 = .ok (.invokevirtual 114, 3) := by decide +kernel
theorem dX9_expect_4 : decode cX9_expect 4 = .ok (.iload_n 1, 1) := by decide +kernel
theorem dX9_expect_5 : decode cX9_expect 5 = .ok (.if_icmp .ne 16, 3) := by decide +kernel
theorem dX9_expect_21 : decode cX9_expect 21 = .ok (.aload_n 0, 1) := by decide +kernel
theorem dX9_expect_22 : decode cX9_expect 22 = .ok (.iconst 1, 1) := by decide +kernel
theorem dX9_expect_23 : decode cX9_expect 23 = .ok (.aload_n 0, 1) := by decide +kernel
theorem dX9_expect_24 : decode cX9_expect 24 = .ok (.invokevirtual 118, 3) := by decide +kernel
theorem dX9_expect_27 : decode cX9_expect 27 = .ok (.invokevirtual 121, 3) := by decide +kernel
theorem dX9_expect_30 : decode cX9_expect 30 = .ok (.return_, 1) := by decide +kernel
abbrev cs_t_X9_expect_0 (cB cI cJ cZ : ClassId) (h0 hQ hKi hPl hNu : Nat) (kf pf : Nat → Int32) (vf : Nat → Int64) (fl pl : Int32) (w2 w3 : Value) (i4 i5 : Int32) (w6 : Value) (x1 z1 : Nat) (w10 : Value) (i11 : Int32) (y3 : Value) (j4 j5 : Int32) (y6 : Value) (y1 : Int32) : va_W := [(h0, .inr (10, [.int fl, .int pl, w2, w3, .int i4, .int i5, w6, .ref hQ, .int (nI x1), .int (nI z1), w10, .int i11])), (hQ, .inr (11, [.ref hKi, .ref hPl, .ref hNu, y3, .int j4, .int j5, y6])), (hKi, .inl (cI, 2001, .inl kf)), (hPl, .inl (cI, 2001, .inl pf)), (hNu, .inl (cJ, 2001, .inr (.inl vf)))]
abbrev pc_t_X9_expect_0 (dC : Nat → ClassId) (dI : Nat → Nat → Nat) (sz : Nat) (cB cI cJ cZ : ClassId) (h0 hQ hKi hPl hNu : Nat) (kf pf : Nat → Int32) (vf : Nat → Int64) (fl pl : Int32) (w2 w3 : Value) (i4 i5 : Int32) (w6 : Value) (x1 z1 : Nat) (w10 : Value) (i11 : Int32) (y3 : Value) (j4 j5 : Int32) (y6 : Value) (y1 : Int32) : Array Value → State → Prop := va_Pc [.ref h0, .int y1] (fun U => U.heap.size = sz ∧ va_P (dC, dI) vwCl [(h0, .inr (10, [.int fl, .int pl, w2, w3, .int i4, .int i5, w6, .ref hQ, .int (nI x1), .int (nI z1), w10, .int i11])), (hQ, .inr (11, [.ref hKi, .ref hPl, .ref hNu, y3, .int j4, .int j5, y6])), (hKi, .inl (cI, 2001, .inl kf)), (hPl, .inl (cI, 2001, .inl pf)), (hNu, .inl (cJ, 2001, .inr (.inl vf)))] U.heap ∧ va_K (dC, dI) vwCl [(cB, .byte), (cI, .int), (cJ, .long), (cZ, .boolean)] U ∧ va_D (fun _ => True) [(h0, .inr (10, [.int fl, .int pl, w2, w3, .int i4, .int i5, w6, .ref hQ, .int (nI x1), .int (nI z1), w10, .int i11])), (hQ, .inr (11, [.ref hKi, .ref hPl, .ref hNu, y3, .int j4, .int j5, y6])), (hKi, .inl (cI, 2001, .inl kf)), (hPl, .inl (cI, 2001, .inl pf)), (hNu, .inl (cJ, 2001, .inr (.inl vf)))])
abbrev qc_t_X9_expect_0 (dC : Nat → ClassId) (dI : Nat → Nat → Nat) (cB cI cJ cZ : ClassId) (h0 hQ hKi hPl hNu : Nat) (kf pf : Nat → Int32) (vf : Nat → Int64) (fl pl : Int32) (w2 w3 : Value) (i4 i5 : Int32) (w6 : Value) (x1 z1 : Nat) (w10 : Value) (i11 : Int32) (y3 : Value) (j4 j5 : Int32) (y6 : Value) (y1 : Int32) (A : Nat → Prop) : Array Value → State → Outcome → State → Prop := va_Qv (fun (u : Unit) => match u with | _ => True) (fun (u : Unit) t_ => match u with | _ => va_P (dC, dI) vwCl [(h0, .inr (10, [.int 1, .int (pf x1), w2, w3, .int i4, .int i5, w6, .ref hQ, .int (nI x1), .int (nI z1), w10, .int i11])), (hQ, .inr (11, [.ref hKi, .ref hPl, .ref hNu, y3, .int j4, .int j5, y6])), (hKi, .inl (cI, 2001, .inl kf)), (hPl, .inl (cI, 2001, .inl pf)), (hNu, .inl (cJ, 2001, .inr (.inl vf)))] t_.heap ∧ va_K (dC, dI) vwCl [(cB, .byte), (cI, .int), (cJ, .long), (cZ, .boolean)] t_ ∧ va_D A [(h0, .inr (10, [.int 1, .int (pf x1), w2, w3, .int i4, .int i5, w6, .ref hQ, .int (nI x1), .int (nI z1), w10, .int i11])), (hQ, .inr (11, [.ref hKi, .ref hPl, .ref hNu, y3, .int j4, .int j5, y6])), (hKi, .inl (cI, 2001, .inl kf)), (hPl, .inl (cI, 2001, .inl pf)), (hNu, .inl (cJ, 2001, .inr (.inl vf)))]) A
set_option maxHeartbeats 4000000 in
set_option maxRecDepth 100000 in
theorem t_X9_expect_0 (l : Launch) (dC : Nat → ClassId) (dI : Nat → Nat → Nat) (sz : Nat) (cB cI cJ cZ : ClassId) (h0 hQ hKi hPl hNu : Nat) (kf pf : Nat → Int32) (vf : Nat → Int64) (fl pl : Int32) (w2 w3 : Value) (i4 i5 : Int32) (w6 : Value) (x1 z1 : Nat) (w10 : Value) (i11 : Int32) (y3 : Value) (j4 j5 : Int32) (y6 : Value) (y1 : Int32) (hx1 : x1 ≤ 2000) (hy : ¬ kdF fl kf x1 = y1) (hfl : fl = 0) : Met l yX9_expect (wsOf yX9_expect cX9_expect 2 none) ({ frames := 1, cells := 0, slots := 0, locals := 60 }) (pc_t_X9_expect_0 dC dI sz cB cI cJ cZ h0 hQ hKi hPl hNu kf pf vf fl pl w2 w3 i4 i5 w6 x1 z1 w10 i11 y3 j4 j5 y6 y1) (qc_t_X9_expect_0 dC dI cB cI cJ cZ h0 hQ hKi hPl hNu kf pf vf fl pl w2 w3 i4 i5 w6 x1 z1 w10 i11 y3 j4 j5 y6 y1 (va_A (cs_t_X9_expect_0 cB cI cJ cZ h0 hQ hKi hPl hNu kf pf vf fl pl w2 w3 i4 i5 w6 x1 z1 w10 i11 y3 j4 j5 y6 y1) sz)) 0 0 (va_A (cs_t_X9_expect_0 cB cI cJ cZ h0 hQ hKi hPl hNu kf pf vf fl pl w2 w3 i4 i5 w6 x1 z1 w10 i11 y3 j4 j5 y6 y1) sz) := by
  refine Met.ofW (cc := cX9_expect) (maxL := 2) (ret := none) (by decide) rfl ?_
  intro p e s m args below meth c s₁ B hml hv
  obtain ⟨rfl, hsz, hP, hK, hD0⟩ := hv
  have hx := B.exec
  have hb := B.bytes
  have hr := B.returns
  have hts := atoms_spec (ws := (wsOf yX9_expect cX9_expect 2 none)) B.pre
  have hown : s.vm.findClass RX9 = some m.cls := findClass_of_methodNamed B.named
  have hlocks := B.notSynchronized
  subst hsz
  have hD := hD0.self (sz := s.heap.size)
  generalize hAe : va_A (cs_t_X9_expect_0 cB cI cJ cZ h0 hQ hKi hPl hNu kf pf vf fl pl w2 w3 i4 i5 w6 x1 z1 w10 i11 y3 j4 j5 y6 y1) s.heap.size = A at hD ⊢
  have hA : ∀ q : Nat, s.heap.size ≤ q → A q := fun q h => by rw [← hAe]; exact Or.inr h
  have hS : va_S A s.heap s.heap [] := va_S.rf
  have hP : va_P (dC, dI) vwCl [(h0, .inr (10, [.int fl, .int pl, w2, w3, .int i4, .int i5, w6, .ref hQ, .int (nI x1), .int (nI z1), w10, .int i11])), (hQ, .inr (11, [.ref hKi, .ref hPl, .ref hNu, y3, .int j4, .int j5, y6])), (hKi, .inl (cI, 2001, .inl kf)), (hPl, .inl (cI, 2001, .inl pf)), (hNu, .inl (cJ, 2001, .inr (.inl vf)))] s.heap := hP
  have hl := lv_entry ([.ref h0, .int y1]) (n := 2) (Nat.le_of_ble_eq_true rfl)
  rw [lg_entry_eq]
  generalize (lg_sl ([.ref h0, .int y1]) ++ List.replicate (2 - (lg_sl ([.ref h0, .int y1])).length) Slot.unset).toArray = ls at hl ⊢
  have hl : lv_has ls 2 [(0, .ref h0), (1, .int y1)] := hl
  refine lv_aload_n hx hb dX9_expect_0 rfl (lv_at hl 0 rfl) ?_
  have hPc := hP.sub (ws' := [(h0, .inr (10, [.int fl, .int pl, w2, w3, .int i4, .int i5, w6, .ref hQ, .int (nI x1), .int (nI z1), w10, .int i11])), (hQ, .inr (11, [.ref hKi, .ref hPl, .ref hNu, y3, .int j4, .int j5, y6])), (hKi, .inl (cI, 2001, .inl kf)), (hPl, .inl (cI, 2001, .inl pf)), (hNu, .inl (cJ, 2001, .inr (.inl vf)))]) [0, 1, 2, 3, 4] rfl
  have hDc := hD.sub (ws' := [(h0, .inr (10, [.int fl, .int pl, w2, w3, .int i4, .int i5, w6, .ref hQ, .int (nI x1), .int (nI z1), w10, .int i11])), (hQ, .inr (11, [.ref hKi, .ref hPl, .ref hNu, y3, .int j4, .int j5, y6])), (hKi, .inl (cI, 2001, .inl kf)), (hPl, .inl (cI, 2001, .inl pf)), (hNu, .inl (cJ, 2001, .inr (.inl vf)))]) [0, 1, 2, 3, 4] (by decide) rfl
  have hKc := hK.sub (tys' := [(cB, .byte), (cI, .int), (cJ, .long), (cZ, .boolean)]) [0, 1, 2, 3] rfl
  have hFc := va_free (wc := [(h0, .inr (10, [.int fl, .int pl, w2, w3, .int i4, .int i5, w6, .ref hQ, .int (nI x1), .int (nI z1), w10, .int i11])), (hQ, .inr (11, [.ref hKi, .ref hPl, .ref hNu, y3, .int j4, .int j5, y6])), (hKi, .inl (cI, 2001, .inl kf)), (hPl, .inl (cI, 2001, .inl pf)), (hNu, .inl (cJ, 2001, .inr (.inl vf)))]) hD hS hA [0, 1, 2, 3, 4] rfl
  refine va_calli (va_runV (As := []) (rest := []) ⟨hx, hb, hml, hown, hts⟩ (t_X9_kind l dC dI s.heap.size cB cI cJ cZ h0 hQ hKi hPl hNu kf pf vf fl pl w2 w3 i4 i5 w6 x1 z1 w10 i11 y3 j4 j5 y6 hx1) (cwV 0 hts (gd_all (in_V kw_907 kw_909 kw_12 kw_193 kc_X9_kind)) rfl rfl rfl (by decide +kernel) ⟨Nat.le_of_ble_eq_true rfl, Nat.le_of_ble_eq_true rfl⟩) ⟨fun a U g mk q => by obtain ⟨q0, q1, qP, qK, qD⟩ := q; exact ⟨q0, q1, qP, va_K.moved (u := U) (U := U.calling g mk a) (Vm.Alike.refl U.vm) qK, qD⟩, va_recv hKc hPc (ci := 10) (q0 := 0) rfl rfl, fun U hU hW => ⟨rfl, by rw [hU], by rw [hU]; exact hPc, va_K.moved hW.alike hKc, hDc.weaken (fun _ _ _ _ => trivial)⟩⟩ rfl rfl hl.1 rfl (lv_room (Nat.le_of_ble_eq_true rfl)) dX9_expect_1 ⟨Nat.le_of_ble_eq_true rfl, Nat.le_of_ble_eq_true rfl⟩) hS (fun q _ h => hFc q h) hFc (fun r_1 u t_ H1 locs ht hvm hw hB hz1 hk1 hS => ?_)
  obtain ⟨hP1, hK1, hD1⟩ := hB
  rw [ht] at hP1
  have hK1 := va_K.moved hvm.symm hK1
  obtain ⟨hP, hD⟩ := va_join (wr := []) (w1 := [(h0, .inr (10, [.int fl, .int pl, w2, w3, .int i4, .int i5, w6, .ref hQ, .int (nI x1), .int (nI z1), w10, .int i11])), (hQ, .inr (11, [.ref hKi, .ref hPl, .ref hNu, y3, .int j4, .int j5, y6])), (hKi, .inl (cI, 2001, .inl kf)), (hPl, .inl (cI, 2001, .inl pf)), (hNu, .inl (cJ, 2001, .inr (.inl vf)))]) hP hD [0, 1, 2, 3, 4] [] rfl rfl (by decide) (by decide) hk1 hFc hP1 hD1
  have hK := (hK.sub (tys' := []) [] rfl).app hK1
  generalize H1 = H at hP hS ⊢
  have hP : va_P (dC, dI) vwCl [(h0, .inr (10, [.int fl, .int pl, w2, w3, .int i4, .int i5, w6, .ref hQ, .int (nI x1), .int (nI z1), w10, .int i11])), (hQ, .inr (11, [.ref hKi, .ref hPl, .ref hNu, y3, .int j4, .int j5, y6])), (hKi, .inl (cI, 2001, .inl kf)), (hPl, .inl (cI, 2001, .inl pf)), (hNu, .inl (cJ, 2001, .inr (.inl vf)))] H := hP
  have hD : va_D A [(h0, .inr (10, [.int fl, .int pl, w2, w3, .int i4, .int i5, w6, .ref hQ, .int (nI x1), .int (nI z1), w10, .int i11])), (hQ, .inr (11, [.ref hKi, .ref hPl, .ref hNu, y3, .int j4, .int j5, y6])), (hKi, .inl (cI, 2001, .inl kf)), (hPl, .inl (cI, 2001, .inl pf)), (hNu, .inl (cJ, 2001, .inr (.inl vf)))] := hD
  have hK : va_K (dC, dI) vwCl [(cB, .byte), (cI, .int), (cJ, .long), (cZ, .boolean)] s := hK
  have er_1 : r_1 = kdF fl kf x1 := hw
  rw [er_1]
  refine lv_iload_n hx hb dX9_expect_4 rfl (lv_at hl 1 rfl) ?_
  refine lv_icmp_ne (tgt := 21) hx hb dX9_expect_5 (by decide) (fun c_2 => ?_) (fun c_2 => ?_)
  · skip
    refine lv_aload_n hx hb dX9_expect_21 rfl (lv_at hl 0 rfl) ?_
    refine lv_iconst (v := 1) hx hb dX9_expect_22 (by decide) ?_
    refine lv_aload_n hx hb dX9_expect_23 rfl (lv_at hl 0 rfl) ?_
    have hPc := hP.sub (ws' := [(h0, .inr (10, [.int fl, .int pl, w2, w3, .int i4, .int i5, w6, .ref hQ, .int (nI x1), .int (nI z1), w10, .int i11])), (hQ, .inr (11, [.ref hKi, .ref hPl, .ref hNu, y3, .int j4, .int j5, y6])), (hKi, .inl (cI, 2001, .inl kf)), (hPl, .inl (cI, 2001, .inl pf)), (hNu, .inl (cJ, 2001, .inr (.inl vf)))]) [0, 1, 2, 3, 4] rfl
    have hDc := hD.sub (ws' := [(h0, .inr (10, [.int fl, .int pl, w2, w3, .int i4, .int i5, w6, .ref hQ, .int (nI x1), .int (nI z1), w10, .int i11])), (hQ, .inr (11, [.ref hKi, .ref hPl, .ref hNu, y3, .int j4, .int j5, y6])), (hKi, .inl (cI, 2001, .inl kf)), (hPl, .inl (cI, 2001, .inl pf)), (hNu, .inl (cJ, 2001, .inr (.inl vf)))]) [0, 1, 2, 3, 4] (by decide) rfl
    have hKc := hK.sub (tys' := [(cB, .byte), (cI, .int), (cJ, .long), (cZ, .boolean)]) [0, 1, 2, 3] rfl
    have hFc := va_free (wc := [(h0, .inr (10, [.int fl, .int pl, w2, w3, .int i4, .int i5, w6, .ref hQ, .int (nI x1), .int (nI z1), w10, .int i11])), (hQ, .inr (11, [.ref hKi, .ref hPl, .ref hNu, y3, .int j4, .int j5, y6])), (hKi, .inl (cI, 2001, .inl kf)), (hPl, .inl (cI, 2001, .inl pf)), (hNu, .inl (cJ, 2001, .inr (.inl vf)))]) hD hS hA [0, 1, 2, 3, 4] rfl
    refine va_calli (va_runV (As := []) (rest := [.int 1, .ref h0]) ⟨hx, hb, hml, hown, hts⟩ (t_X9_here l dC dI H.size cB cI cJ cZ h0 hQ hKi hPl hNu kf pf vf fl pl w2 w3 i4 i5 w6 x1 z1 w10 i11 y3 j4 j5 y6 hx1) (cwV 0 hts (gd_all (in_V kw_923 kw_925 kw_16 kw_193 kc_X9_here)) rfl rfl rfl (by decide +kernel) ⟨Nat.le_of_ble_eq_true rfl, Nat.le_of_ble_eq_true rfl⟩) ⟨fun a U g mk q => by obtain ⟨q0, q1, qP, qK, qD⟩ := q; exact ⟨q0, q1, qP, va_K.moved (u := U) (U := U.calling g mk a) (Vm.Alike.refl U.vm) qK, qD⟩, va_recv hKc hPc (ci := 10) (q0 := 0) rfl rfl, fun U hU hW => ⟨rfl, by rw [hU], by rw [hU]; exact hPc, va_K.moved hW.alike hKc, hDc.weaken (fun _ _ _ _ => trivial)⟩⟩ rfl rfl hl.1 rfl (lv_room (Nat.le_of_ble_eq_true rfl)) dX9_expect_24 ⟨Nat.le_of_ble_eq_true rfl, Nat.le_of_ble_eq_true rfl⟩) hS (fun q _ h => hFc q h) hFc (fun r_3 u t_ H1 locs ht hvm hw hB hz1 hk1 hS => ?_)
    obtain ⟨hP1, hK1, hD1⟩ := hB
    rw [ht] at hP1
    have hK1 := va_K.moved hvm.symm hK1
    obtain ⟨hP, hD⟩ := va_join (wr := []) (w1 := [(h0, .inr (10, [.int fl, .int pl, w2, w3, .int i4, .int i5, w6, .ref hQ, .int (nI x1), .int (nI z1), w10, .int i11])), (hQ, .inr (11, [.ref hKi, .ref hPl, .ref hNu, y3, .int j4, .int j5, y6])), (hKi, .inl (cI, 2001, .inl kf)), (hPl, .inl (cI, 2001, .inl pf)), (hNu, .inl (cJ, 2001, .inr (.inl vf)))]) hP hD [0, 1, 2, 3, 4] [] rfl rfl (by decide) (by decide) hk1 hFc hP1 hD1
    have hK := (hK.sub (tys' := []) [] rfl).app hK1
    generalize H1 = H at hP hS ⊢
    have hP : va_P (dC, dI) vwCl [(h0, .inr (10, [.int fl, .int pl, w2, w3, .int i4, .int i5, w6, .ref hQ, .int (nI x1), .int (nI z1), w10, .int i11])), (hQ, .inr (11, [.ref hKi, .ref hPl, .ref hNu, y3, .int j4, .int j5, y6])), (hKi, .inl (cI, 2001, .inl kf)), (hPl, .inl (cI, 2001, .inl pf)), (hNu, .inl (cJ, 2001, .inr (.inl vf)))] H := hP
    have hD : va_D A [(h0, .inr (10, [.int fl, .int pl, w2, w3, .int i4, .int i5, w6, .ref hQ, .int (nI x1), .int (nI z1), w10, .int i11])), (hQ, .inr (11, [.ref hKi, .ref hPl, .ref hNu, y3, .int j4, .int j5, y6])), (hKi, .inl (cI, 2001, .inl kf)), (hPl, .inl (cI, 2001, .inl pf)), (hNu, .inl (cJ, 2001, .inr (.inl vf)))] := hD
    have hK : va_K (dC, dI) vwCl [(cB, .byte), (cI, .int), (cJ, .long), (cZ, .boolean)] s := hK
    have er_3 : r_3 = pf x1 := hw
    rw [er_3]
    have hPc := hP.sub (ws' := [(h0, .inr (10, [.int fl, .int pl, w2, w3, .int i4, .int i5, w6, .ref hQ, .int (nI x1), .int (nI z1), w10, .int i11])), (hQ, .inr (11, [.ref hKi, .ref hPl, .ref hNu, y3, .int j4, .int j5, y6])), (hKi, .inl (cI, 2001, .inl kf)), (hPl, .inl (cI, 2001, .inl pf)), (hNu, .inl (cJ, 2001, .inr (.inl vf)))]) [0, 1, 2, 3, 4] rfl
    have hDc := hD.sub (ws' := [(h0, .inr (10, [.int fl, .int pl, w2, w3, .int i4, .int i5, w6, .ref hQ, .int (nI x1), .int (nI z1), w10, .int i11])), (hQ, .inr (11, [.ref hKi, .ref hPl, .ref hNu, y3, .int j4, .int j5, y6])), (hKi, .inl (cI, 2001, .inl kf)), (hPl, .inl (cI, 2001, .inl pf)), (hNu, .inl (cJ, 2001, .inr (.inl vf)))]) [0, 1, 2, 3, 4] (by decide) rfl
    have hKc := hK.sub (tys' := [(cB, .byte), (cI, .int), (cJ, .long), (cZ, .boolean)]) [0, 1, 2, 3] rfl
    have hFc := va_free (wc := [(h0, .inr (10, [.int fl, .int pl, w2, w3, .int i4, .int i5, w6, .ref hQ, .int (nI x1), .int (nI z1), w10, .int i11])), (hQ, .inr (11, [.ref hKi, .ref hPl, .ref hNu, y3, .int j4, .int j5, y6])), (hKi, .inl (cI, 2001, .inl kf)), (hPl, .inl (cI, 2001, .inl pf)), (hNu, .inl (cJ, 2001, .inr (.inl vf)))]) hD hS hA [0, 1, 2, 3, 4] rfl
    refine va_callv (va_runV (As := [.int 1, .int (pf x1)]) (rest := []) ⟨hx, hb, hml, hown, hts⟩ (t_X9_refuse_0 l dC dI H.size cB cI cJ cZ h0 hQ hKi hPl hNu kf pf vf fl pl w2 w3 i4 i5 w6 x1 z1 w10 i11 y3 j4 j5 y6 1 (pf x1) hfl) (cwV 2 hts (gd_all (in_V kw_927 kw_928 kw_929 kw_193 kc_X9_refuse)) rfl rfl rfl (by decide +kernel) ⟨Nat.le_of_ble_eq_true rfl, Nat.le_of_ble_eq_true rfl⟩) ⟨fun a U g mk q => by obtain ⟨q0, q1, qP, qK, qD⟩ := q; exact ⟨q0, q1, qP, va_K.moved (u := U) (U := U.calling g mk a) (Vm.Alike.refl U.vm) qK, qD⟩, va_recv hKc hPc (ci := 10) (q0 := 0) rfl rfl, fun U hU hW => ⟨rfl, by rw [hU], by rw [hU]; exact hPc, va_K.moved hW.alike hKc, hDc.weaken (fun _ _ _ _ => trivial)⟩⟩ rfl rfl hl.1 rfl (lv_room (Nat.le_of_ble_eq_true rfl)) dX9_expect_27 ⟨Nat.le_of_ble_eq_true rfl, Nat.le_of_ble_eq_true rfl⟩) hS (fun q _ h => hFc q h) hFc (fun u t_ H1 locs ht hvm hw hB hz1 hk1 hS => ?_)
    obtain ⟨hP1, hK1, hD1⟩ := hB
    rw [ht] at hP1
    have hK1 := va_K.moved hvm.symm hK1
    obtain ⟨hP, hD⟩ := va_join (wr := []) (w1 := [(h0, .inr (10, [.int 1, .int (pf x1), w2, w3, .int i4, .int i5, w6, .ref hQ, .int (nI x1), .int (nI z1), w10, .int i11])), (hQ, .inr (11, [.ref hKi, .ref hPl, .ref hNu, y3, .int j4, .int j5, y6])), (hKi, .inl (cI, 2001, .inl kf)), (hPl, .inl (cI, 2001, .inl pf)), (hNu, .inl (cJ, 2001, .inr (.inl vf)))]) hP hD [0, 1, 2, 3, 4] [] rfl rfl (by decide) (by decide) hk1 hFc hP1 hD1
    have hK := (hK.sub (tys' := []) [] rfl).app hK1
    generalize H1 = H at hP hS ⊢
    have hP : va_P (dC, dI) vwCl [(h0, .inr (10, [.int 1, .int (pf x1), w2, w3, .int i4, .int i5, w6, .ref hQ, .int (nI x1), .int (nI z1), w10, .int i11])), (hQ, .inr (11, [.ref hKi, .ref hPl, .ref hNu, y3, .int j4, .int j5, y6])), (hKi, .inl (cI, 2001, .inl kf)), (hPl, .inl (cI, 2001, .inl pf)), (hNu, .inl (cJ, 2001, .inr (.inl vf)))] H := hP
    have hD : va_D A [(h0, .inr (10, [.int 1, .int (pf x1), w2, w3, .int i4, .int i5, w6, .ref hQ, .int (nI x1), .int (nI z1), w10, .int i11])), (hQ, .inr (11, [.ref hKi, .ref hPl, .ref hNu, y3, .int j4, .int j5, y6])), (hKi, .inl (cI, 2001, .inl kf)), (hPl, .inl (cI, 2001, .inl pf)), (hNu, .inl (cJ, 2001, .inr (.inl vf)))] := hD
    have hK : va_K (dC, dI) vwCl [(cB, .byte), (cI, .int), (cJ, .long), (cZ, .boolean)] s := hK
    have hP9 := hP.sub (ws' := [(h0, .inr (10, [.int 1, .int (pf x1), w2, w3, .int i4, .int i5, w6, .ref hQ, .int (nI x1), .int (nI z1), w10, .int i11])), (hQ, .inr (11, [.ref hKi, .ref hPl, .ref hNu, y3, .int j4, .int j5, y6])), (hKi, .inl (cI, 2001, .inl kf)), (hPl, .inl (cI, 2001, .inl pf)), (hNu, .inl (cJ, 2001, .inr (.inl vf)))]) [0, 1, 2, 3, 4] rfl
    have hD9 := hD.sub (ws' := [(h0, .inr (10, [.int 1, .int (pf x1), w2, w3, .int i4, .int i5, w6, .ref hQ, .int (nI x1), .int (nI z1), w10, .int i11])), (hQ, .inr (11, [.ref hKi, .ref hPl, .ref hNu, y3, .int j4, .int j5, y6])), (hKi, .inl (cI, 2001, .inl kf)), (hPl, .inl (cI, 2001, .inl pf)), (hNu, .inl (cJ, 2001, .inr (.inl vf)))]) [0, 1, 2, 3, 4] (by decide) rfl
    have hK9 := hK.sub (tys' := [(cB, .byte), (cI, .int), (cJ, .long), (cZ, .boolean)]) [0, 1, 2, 3] rfl
    exact W.vret hx hb hr (fun t_ ht hW => ⟨⟨(), rfl, trivial, by rw [ht]; exact hP9, va_K.moved hW.alike hK9, hD9⟩, hS.F ht⟩) hS.2.2 dX9_expect_30
  · skip
    exact absurd c_2 hy
abbrev cs_t_X9_expect_1 (cB cI cJ cZ : ClassId) (h0 hQ hKi hPl hNu : Nat) (kf pf : Nat → Int32) (vf : Nat → Int64) (fl pl : Int32) (w2 w3 : Value) (i4 i5 : Int32) (w6 : Value) (x1 z1 : Nat) (w10 : Value) (i11 : Int32) (y3 : Value) (j4 j5 : Int32) (y6 : Value) (y1 : Int32) : va_W := [(h0, .inr (10, [.int fl, .int pl, w2, w3, .int i4, .int i5, w6, .ref hQ, .int (nI x1), .int (nI z1), w10, .int i11])), (hQ, .inr (11, [.ref hKi, .ref hPl, .ref hNu, y3, .int j4, .int j5, y6])), (hKi, .inl (cI, 2001, .inl kf)), (hPl, .inl (cI, 2001, .inl pf)), (hNu, .inl (cJ, 2001, .inr (.inl vf)))]
abbrev pc_t_X9_expect_1 (dC : Nat → ClassId) (dI : Nat → Nat → Nat) (sz : Nat) (cB cI cJ cZ : ClassId) (h0 hQ hKi hPl hNu : Nat) (kf pf : Nat → Int32) (vf : Nat → Int64) (fl pl : Int32) (w2 w3 : Value) (i4 i5 : Int32) (w6 : Value) (x1 z1 : Nat) (w10 : Value) (i11 : Int32) (y3 : Value) (j4 j5 : Int32) (y6 : Value) (y1 : Int32) : Array Value → State → Prop := va_Pc [.ref h0, .int y1] (fun U => U.heap.size = sz ∧ va_P (dC, dI) vwCl [(h0, .inr (10, [.int fl, .int pl, w2, w3, .int i4, .int i5, w6, .ref hQ, .int (nI x1), .int (nI z1), w10, .int i11])), (hQ, .inr (11, [.ref hKi, .ref hPl, .ref hNu, y3, .int j4, .int j5, y6])), (hKi, .inl (cI, 2001, .inl kf)), (hPl, .inl (cI, 2001, .inl pf)), (hNu, .inl (cJ, 2001, .inr (.inl vf)))] U.heap ∧ va_K (dC, dI) vwCl [(cB, .byte), (cI, .int), (cJ, .long), (cZ, .boolean)] U ∧ va_D (fun _ => True) [(h0, .inr (10, [.int fl, .int pl, w2, w3, .int i4, .int i5, w6, .ref hQ, .int (nI x1), .int (nI z1), w10, .int i11])), (hQ, .inr (11, [.ref hKi, .ref hPl, .ref hNu, y3, .int j4, .int j5, y6])), (hKi, .inl (cI, 2001, .inl kf)), (hPl, .inl (cI, 2001, .inl pf)), (hNu, .inl (cJ, 2001, .inr (.inl vf)))])
abbrev qc_t_X9_expect_1 (dC : Nat → ClassId) (dI : Nat → Nat → Nat) (cB cI cJ cZ : ClassId) (h0 hQ hKi hPl hNu : Nat) (kf pf : Nat → Int32) (vf : Nat → Int64) (fl pl : Int32) (w2 w3 : Value) (i4 i5 : Int32) (w6 : Value) (x1 z1 : Nat) (w10 : Value) (i11 : Int32) (y3 : Value) (j4 j5 : Int32) (y6 : Value) (y1 : Int32) (A : Nat → Prop) : Array Value → State → Outcome → State → Prop := va_Qv (fun (u : Unit) => match u with | _ => True) (fun (u : Unit) t_ => match u with | _ => va_P (dC, dI) vwCl [(h0, .inr (10, [.int fl, .int pl, w2, w3, .int i4, .int i5, w6, .ref hQ, .int (nI x1), .int (nI z1), w10, .int i11])), (hQ, .inr (11, [.ref hKi, .ref hPl, .ref hNu, y3, .int j4, .int j5, y6])), (hKi, .inl (cI, 2001, .inl kf)), (hPl, .inl (cI, 2001, .inl pf)), (hNu, .inl (cJ, 2001, .inr (.inl vf)))] t_.heap ∧ va_K (dC, dI) vwCl [(cB, .byte), (cI, .int), (cJ, .long), (cZ, .boolean)] t_ ∧ va_D A [(h0, .inr (10, [.int fl, .int pl, w2, w3, .int i4, .int i5, w6, .ref hQ, .int (nI x1), .int (nI z1), w10, .int i11])), (hQ, .inr (11, [.ref hKi, .ref hPl, .ref hNu, y3, .int j4, .int j5, y6])), (hKi, .inl (cI, 2001, .inl kf)), (hPl, .inl (cI, 2001, .inl pf)), (hNu, .inl (cJ, 2001, .inr (.inl vf)))]) A
set_option maxHeartbeats 4000000 in
set_option maxRecDepth 100000 in
theorem t_X9_expect_1 (l : Launch) (dC : Nat → ClassId) (dI : Nat → Nat → Nat) (sz : Nat) (cB cI cJ cZ : ClassId) (h0 hQ hKi hPl hNu : Nat) (kf pf : Nat → Int32) (vf : Nat → Int64) (fl pl : Int32) (w2 w3 : Value) (i4 i5 : Int32) (w6 : Value) (x1 z1 : Nat) (w10 : Value) (i11 : Int32) (y3 : Value) (j4 j5 : Int32) (y6 : Value) (y1 : Int32) (hx1 : x1 ≤ 2000) (hy : ¬ kdF fl kf x1 = y1) (hfl : ¬ fl = 0) : Met l yX9_expect (wsOf yX9_expect cX9_expect 2 none) ({ frames := 1, cells := 0, slots := 0, locals := 60 }) (pc_t_X9_expect_1 dC dI sz cB cI cJ cZ h0 hQ hKi hPl hNu kf pf vf fl pl w2 w3 i4 i5 w6 x1 z1 w10 i11 y3 j4 j5 y6 y1) (qc_t_X9_expect_1 dC dI cB cI cJ cZ h0 hQ hKi hPl hNu kf pf vf fl pl w2 w3 i4 i5 w6 x1 z1 w10 i11 y3 j4 j5 y6 y1 (va_A (cs_t_X9_expect_1 cB cI cJ cZ h0 hQ hKi hPl hNu kf pf vf fl pl w2 w3 i4 i5 w6 x1 z1 w10 i11 y3 j4 j5 y6 y1) sz)) 0 0 (va_A (cs_t_X9_expect_1 cB cI cJ cZ h0 hQ hKi hPl hNu kf pf vf fl pl w2 w3 i4 i5 w6 x1 z1 w10 i11 y3 j4 j5 y6 y1) sz) := by
  refine Met.ofW (cc := cX9_expect) (maxL := 2) (ret := none) (by decide) rfl ?_
  intro p e s m args below meth c s₁ B hml hv
  obtain ⟨rfl, hsz, hP, hK, hD0⟩ := hv
  have hx := B.exec
  have hb := B.bytes
  have hr := B.returns
  have hts := atoms_spec (ws := (wsOf yX9_expect cX9_expect 2 none)) B.pre
  have hown : s.vm.findClass RX9 = some m.cls := findClass_of_methodNamed B.named
  have hlocks := B.notSynchronized
  subst hsz
  have hD := hD0.self (sz := s.heap.size)
  generalize hAe : va_A (cs_t_X9_expect_1 cB cI cJ cZ h0 hQ hKi hPl hNu kf pf vf fl pl w2 w3 i4 i5 w6 x1 z1 w10 i11 y3 j4 j5 y6 y1) s.heap.size = A at hD ⊢
  have hA : ∀ q : Nat, s.heap.size ≤ q → A q := fun q h => by rw [← hAe]; exact Or.inr h
  have hS : va_S A s.heap s.heap [] := va_S.rf
  have hP : va_P (dC, dI) vwCl [(h0, .inr (10, [.int fl, .int pl, w2, w3, .int i4, .int i5, w6, .ref hQ, .int (nI x1), .int (nI z1), w10, .int i11])), (hQ, .inr (11, [.ref hKi, .ref hPl, .ref hNu, y3, .int j4, .int j5, y6])), (hKi, .inl (cI, 2001, .inl kf)), (hPl, .inl (cI, 2001, .inl pf)), (hNu, .inl (cJ, 2001, .inr (.inl vf)))] s.heap := hP
  have hl := lv_entry ([.ref h0, .int y1]) (n := 2) (Nat.le_of_ble_eq_true rfl)
  rw [lg_entry_eq]
  generalize (lg_sl ([.ref h0, .int y1]) ++ List.replicate (2 - (lg_sl ([.ref h0, .int y1])).length) Slot.unset).toArray = ls at hl ⊢
  have hl : lv_has ls 2 [(0, .ref h0), (1, .int y1)] := hl
  refine lv_aload_n hx hb dX9_expect_0 rfl (lv_at hl 0 rfl) ?_
  have hPc := hP.sub (ws' := [(h0, .inr (10, [.int fl, .int pl, w2, w3, .int i4, .int i5, w6, .ref hQ, .int (nI x1), .int (nI z1), w10, .int i11])), (hQ, .inr (11, [.ref hKi, .ref hPl, .ref hNu, y3, .int j4, .int j5, y6])), (hKi, .inl (cI, 2001, .inl kf)), (hPl, .inl (cI, 2001, .inl pf)), (hNu, .inl (cJ, 2001, .inr (.inl vf)))]) [0, 1, 2, 3, 4] rfl
  have hDc := hD.sub (ws' := [(h0, .inr (10, [.int fl, .int pl, w2, w3, .int i4, .int i5, w6, .ref hQ, .int (nI x1), .int (nI z1), w10, .int i11])), (hQ, .inr (11, [.ref hKi, .ref hPl, .ref hNu, y3, .int j4, .int j5, y6])), (hKi, .inl (cI, 2001, .inl kf)), (hPl, .inl (cI, 2001, .inl pf)), (hNu, .inl (cJ, 2001, .inr (.inl vf)))]) [0, 1, 2, 3, 4] (by decide) rfl
  have hKc := hK.sub (tys' := [(cB, .byte), (cI, .int), (cJ, .long), (cZ, .boolean)]) [0, 1, 2, 3] rfl
  have hFc := va_free (wc := [(h0, .inr (10, [.int fl, .int pl, w2, w3, .int i4, .int i5, w6, .ref hQ, .int (nI x1), .int (nI z1), w10, .int i11])), (hQ, .inr (11, [.ref hKi, .ref hPl, .ref hNu, y3, .int j4, .int j5, y6])), (hKi, .inl (cI, 2001, .inl kf)), (hPl, .inl (cI, 2001, .inl pf)), (hNu, .inl (cJ, 2001, .inr (.inl vf)))]) hD hS hA [0, 1, 2, 3, 4] rfl
  refine va_calli (va_runV (As := []) (rest := []) ⟨hx, hb, hml, hown, hts⟩ (t_X9_kind l dC dI s.heap.size cB cI cJ cZ h0 hQ hKi hPl hNu kf pf vf fl pl w2 w3 i4 i5 w6 x1 z1 w10 i11 y3 j4 j5 y6 hx1) (cwV 0 hts (gd_all (in_V kw_907 kw_909 kw_12 kw_193 kc_X9_kind)) rfl rfl rfl (by decide +kernel) ⟨Nat.le_of_ble_eq_true rfl, Nat.le_of_ble_eq_true rfl⟩) ⟨fun a U g mk q => by obtain ⟨q0, q1, qP, qK, qD⟩ := q; exact ⟨q0, q1, qP, va_K.moved (u := U) (U := U.calling g mk a) (Vm.Alike.refl U.vm) qK, qD⟩, va_recv hKc hPc (ci := 10) (q0 := 0) rfl rfl, fun U hU hW => ⟨rfl, by rw [hU], by rw [hU]; exact hPc, va_K.moved hW.alike hKc, hDc.weaken (fun _ _ _ _ => trivial)⟩⟩ rfl rfl hl.1 rfl (lv_room (Nat.le_of_ble_eq_true rfl)) dX9_expect_1 ⟨Nat.le_of_ble_eq_true rfl, Nat.le_of_ble_eq_true rfl⟩) hS (fun q _ h => hFc q h) hFc (fun r_1 u t_ H1 locs ht hvm hw hB hz1 hk1 hS => ?_)
  obtain ⟨hP1, hK1, hD1⟩ := hB
  rw [ht] at hP1
  have hK1 := va_K.moved hvm.symm hK1
  obtain ⟨hP, hD⟩ := va_join (wr := []) (w1 := [(h0, .inr (10, [.int fl, .int pl, w2, w3, .int i4, .int i5, w6, .ref hQ, .int (nI x1), .int (nI z1), w10, .int i11])), (hQ, .inr (11, [.ref hKi, .ref hPl, .ref hNu, y3, .int j4, .int j5, y6])), (hKi, .inl (cI, 2001, .inl kf)), (hPl, .inl (cI, 2001, .inl pf)), (hNu, .inl (cJ, 2001, .inr (.inl vf)))]) hP hD [0, 1, 2, 3, 4] [] rfl rfl (by decide) (by decide) hk1 hFc hP1 hD1
  have hK := (hK.sub (tys' := []) [] rfl).app hK1
  generalize H1 = H at hP hS ⊢
  have hP : va_P (dC, dI) vwCl [(h0, .inr (10, [.int fl, .int pl, w2, w3, .int i4, .int i5, w6, .ref hQ, .int (nI x1), .int (nI z1), w10, .int i11])), (hQ, .inr (11, [.ref hKi, .ref hPl, .ref hNu, y3, .int j4, .int j5, y6])), (hKi, .inl (cI, 2001, .inl kf)), (hPl, .inl (cI, 2001, .inl pf)), (hNu, .inl (cJ, 2001, .inr (.inl vf)))] H := hP
  have hD : va_D A [(h0, .inr (10, [.int fl, .int pl, w2, w3, .int i4, .int i5, w6, .ref hQ, .int (nI x1), .int (nI z1), w10, .int i11])), (hQ, .inr (11, [.ref hKi, .ref hPl, .ref hNu, y3, .int j4, .int j5, y6])), (hKi, .inl (cI, 2001, .inl kf)), (hPl, .inl (cI, 2001, .inl pf)), (hNu, .inl (cJ, 2001, .inr (.inl vf)))] := hD
  have hK : va_K (dC, dI) vwCl [(cB, .byte), (cI, .int), (cJ, .long), (cZ, .boolean)] s := hK
  have er_1 : r_1 = kdF fl kf x1 := hw
  rw [er_1]
  refine lv_iload_n hx hb dX9_expect_4 rfl (lv_at hl 1 rfl) ?_
  refine lv_icmp_ne (tgt := 21) hx hb dX9_expect_5 (by decide) (fun c_2 => ?_) (fun c_2 => ?_)
  · skip
    refine lv_aload_n hx hb dX9_expect_21 rfl (lv_at hl 0 rfl) ?_
    refine lv_iconst (v := 1) hx hb dX9_expect_22 (by decide) ?_
    refine lv_aload_n hx hb dX9_expect_23 rfl (lv_at hl 0 rfl) ?_
    have hPc := hP.sub (ws' := [(h0, .inr (10, [.int fl, .int pl, w2, w3, .int i4, .int i5, w6, .ref hQ, .int (nI x1), .int (nI z1), w10, .int i11])), (hQ, .inr (11, [.ref hKi, .ref hPl, .ref hNu, y3, .int j4, .int j5, y6])), (hKi, .inl (cI, 2001, .inl kf)), (hPl, .inl (cI, 2001, .inl pf)), (hNu, .inl (cJ, 2001, .inr (.inl vf)))]) [0, 1, 2, 3, 4] rfl
    have hDc := hD.sub (ws' := [(h0, .inr (10, [.int fl, .int pl, w2, w3, .int i4, .int i5, w6, .ref hQ, .int (nI x1), .int (nI z1), w10, .int i11])), (hQ, .inr (11, [.ref hKi, .ref hPl, .ref hNu, y3, .int j4, .int j5, y6])), (hKi, .inl (cI, 2001, .inl kf)), (hPl, .inl (cI, 2001, .inl pf)), (hNu, .inl (cJ, 2001, .inr (.inl vf)))]) [0, 1, 2, 3, 4] (by decide) rfl
    have hKc := hK.sub (tys' := [(cB, .byte), (cI, .int), (cJ, .long), (cZ, .boolean)]) [0, 1, 2, 3] rfl
    have hFc := va_free (wc := [(h0, .inr (10, [.int fl, .int pl, w2, w3, .int i4, .int i5, w6, .ref hQ, .int (nI x1), .int (nI z1), w10, .int i11])), (hQ, .inr (11, [.ref hKi, .ref hPl, .ref hNu, y3, .int j4, .int j5, y6])), (hKi, .inl (cI, 2001, .inl kf)), (hPl, .inl (cI, 2001, .inl pf)), (hNu, .inl (cJ, 2001, .inr (.inl vf)))]) hD hS hA [0, 1, 2, 3, 4] rfl
    refine va_calli (va_runV (As := []) (rest := [.int 1, .ref h0]) ⟨hx, hb, hml, hown, hts⟩ (t_X9_here l dC dI H.size cB cI cJ cZ h0 hQ hKi hPl hNu kf pf vf fl pl w2 w3 i4 i5 w6 x1 z1 w10 i11 y3 j4 j5 y6 hx1) (cwV 0 hts (gd_all (in_V kw_923 kw_925 kw_16 kw_193 kc_X9_here)) rfl rfl rfl (by decide +kernel) ⟨Nat.le_of_ble_eq_true rfl, Nat.le_of_ble_eq_true rfl⟩) ⟨fun a U g mk q => by obtain ⟨q0, q1, qP, qK, qD⟩ := q; exact ⟨q0, q1, qP, va_K.moved (u := U) (U := U.calling g mk a) (Vm.Alike.refl U.vm) qK, qD⟩, va_recv hKc hPc (ci := 10) (q0 := 0) rfl rfl, fun U hU hW => ⟨rfl, by rw [hU], by rw [hU]; exact hPc, va_K.moved hW.alike hKc, hDc.weaken (fun _ _ _ _ => trivial)⟩⟩ rfl rfl hl.1 rfl (lv_room (Nat.le_of_ble_eq_true rfl)) dX9_expect_24 ⟨Nat.le_of_ble_eq_true rfl, Nat.le_of_ble_eq_true rfl⟩) hS (fun q _ h => hFc q h) hFc (fun r_3 u t_ H1 locs ht hvm hw hB hz1 hk1 hS => ?_)
    obtain ⟨hP1, hK1, hD1⟩ := hB
    rw [ht] at hP1
    have hK1 := va_K.moved hvm.symm hK1
    obtain ⟨hP, hD⟩ := va_join (wr := []) (w1 := [(h0, .inr (10, [.int fl, .int pl, w2, w3, .int i4, .int i5, w6, .ref hQ, .int (nI x1), .int (nI z1), w10, .int i11])), (hQ, .inr (11, [.ref hKi, .ref hPl, .ref hNu, y3, .int j4, .int j5, y6])), (hKi, .inl (cI, 2001, .inl kf)), (hPl, .inl (cI, 2001, .inl pf)), (hNu, .inl (cJ, 2001, .inr (.inl vf)))]) hP hD [0, 1, 2, 3, 4] [] rfl rfl (by decide) (by decide) hk1 hFc hP1 hD1
    have hK := (hK.sub (tys' := []) [] rfl).app hK1
    generalize H1 = H at hP hS ⊢
    have hP : va_P (dC, dI) vwCl [(h0, .inr (10, [.int fl, .int pl, w2, w3, .int i4, .int i5, w6, .ref hQ, .int (nI x1), .int (nI z1), w10, .int i11])), (hQ, .inr (11, [.ref hKi, .ref hPl, .ref hNu, y3, .int j4, .int j5, y6])), (hKi, .inl (cI, 2001, .inl kf)), (hPl, .inl (cI, 2001, .inl pf)), (hNu, .inl (cJ, 2001, .inr (.inl vf)))] H := hP
    have hD : va_D A [(h0, .inr (10, [.int fl, .int pl, w2, w3, .int i4, .int i5, w6, .ref hQ, .int (nI x1), .int (nI z1), w10, .int i11])), (hQ, .inr (11, [.ref hKi, .ref hPl, .ref hNu, y3, .int j4, .int j5, y6])), (hKi, .inl (cI, 2001, .inl kf)), (hPl, .inl (cI, 2001, .inl pf)), (hNu, .inl (cJ, 2001, .inr (.inl vf)))] := hD
    have hK : va_K (dC, dI) vwCl [(cB, .byte), (cI, .int), (cJ, .long), (cZ, .boolean)] s := hK
    have er_3 : r_3 = pf x1 := hw
    rw [er_3]
    have hPc := hP.sub (ws' := [(h0, .inr (10, [.int fl, .int pl, w2, w3, .int i4, .int i5, w6, .ref hQ, .int (nI x1), .int (nI z1), w10, .int i11])), (hQ, .inr (11, [.ref hKi, .ref hPl, .ref hNu, y3, .int j4, .int j5, y6])), (hKi, .inl (cI, 2001, .inl kf)), (hPl, .inl (cI, 2001, .inl pf)), (hNu, .inl (cJ, 2001, .inr (.inl vf)))]) [0, 1, 2, 3, 4] rfl
    have hDc := hD.sub (ws' := [(h0, .inr (10, [.int fl, .int pl, w2, w3, .int i4, .int i5, w6, .ref hQ, .int (nI x1), .int (nI z1), w10, .int i11])), (hQ, .inr (11, [.ref hKi, .ref hPl, .ref hNu, y3, .int j4, .int j5, y6])), (hKi, .inl (cI, 2001, .inl kf)), (hPl, .inl (cI, 2001, .inl pf)), (hNu, .inl (cJ, 2001, .inr (.inl vf)))]) [0, 1, 2, 3, 4] (by decide) rfl
    have hKc := hK.sub (tys' := [(cB, .byte), (cI, .int), (cJ, .long), (cZ, .boolean)]) [0, 1, 2, 3] rfl
    have hFc := va_free (wc := [(h0, .inr (10, [.int fl, .int pl, w2, w3, .int i4, .int i5, w6, .ref hQ, .int (nI x1), .int (nI z1), w10, .int i11])), (hQ, .inr (11, [.ref hKi, .ref hPl, .ref hNu, y3, .int j4, .int j5, y6])), (hKi, .inl (cI, 2001, .inl kf)), (hPl, .inl (cI, 2001, .inl pf)), (hNu, .inl (cJ, 2001, .inr (.inl vf)))]) hD hS hA [0, 1, 2, 3, 4] rfl
    refine va_callv (va_runV (As := [.int 1, .int (pf x1)]) (rest := []) ⟨hx, hb, hml, hown, hts⟩ (t_X9_refuse_1 l dC dI H.size cB cI cJ cZ h0 hQ hKi hPl hNu kf pf vf fl pl w2 w3 i4 i5 w6 x1 z1 w10 i11 y3 j4 j5 y6 1 (pf x1) hfl) (cwV 2 hts (gd_all (in_V kw_927 kw_928 kw_929 kw_193 kc_X9_refuse)) rfl rfl rfl (by decide +kernel) ⟨Nat.le_of_ble_eq_true rfl, Nat.le_of_ble_eq_true rfl⟩) ⟨fun a U g mk q => by obtain ⟨q0, q1, qP, qK, qD⟩ := q; exact ⟨q0, q1, qP, va_K.moved (u := U) (U := U.calling g mk a) (Vm.Alike.refl U.vm) qK, qD⟩, va_recv hKc hPc (ci := 10) (q0 := 0) rfl rfl, fun U hU hW => ⟨rfl, by rw [hU], by rw [hU]; exact hPc, va_K.moved hW.alike hKc, hDc.weaken (fun _ _ _ _ => trivial)⟩⟩ rfl rfl hl.1 rfl (lv_room (Nat.le_of_ble_eq_true rfl)) dX9_expect_27 ⟨Nat.le_of_ble_eq_true rfl, Nat.le_of_ble_eq_true rfl⟩) hS (fun q _ h => hFc q h) hFc (fun u t_ H1 locs ht hvm hw hB hz1 hk1 hS => ?_)
    obtain ⟨hP1, hK1, hD1⟩ := hB
    rw [ht] at hP1
    have hK1 := va_K.moved hvm.symm hK1
    obtain ⟨hP, hD⟩ := va_join (wr := []) (w1 := [(h0, .inr (10, [.int fl, .int pl, w2, w3, .int i4, .int i5, w6, .ref hQ, .int (nI x1), .int (nI z1), w10, .int i11])), (hQ, .inr (11, [.ref hKi, .ref hPl, .ref hNu, y3, .int j4, .int j5, y6])), (hKi, .inl (cI, 2001, .inl kf)), (hPl, .inl (cI, 2001, .inl pf)), (hNu, .inl (cJ, 2001, .inr (.inl vf)))]) hP hD [0, 1, 2, 3, 4] [] rfl rfl (by decide) (by decide) hk1 hFc hP1 hD1
    have hK := (hK.sub (tys' := []) [] rfl).app hK1
    generalize H1 = H at hP hS ⊢
    have hP : va_P (dC, dI) vwCl [(h0, .inr (10, [.int fl, .int pl, w2, w3, .int i4, .int i5, w6, .ref hQ, .int (nI x1), .int (nI z1), w10, .int i11])), (hQ, .inr (11, [.ref hKi, .ref hPl, .ref hNu, y3, .int j4, .int j5, y6])), (hKi, .inl (cI, 2001, .inl kf)), (hPl, .inl (cI, 2001, .inl pf)), (hNu, .inl (cJ, 2001, .inr (.inl vf)))] H := hP
    have hD : va_D A [(h0, .inr (10, [.int fl, .int pl, w2, w3, .int i4, .int i5, w6, .ref hQ, .int (nI x1), .int (nI z1), w10, .int i11])), (hQ, .inr (11, [.ref hKi, .ref hPl, .ref hNu, y3, .int j4, .int j5, y6])), (hKi, .inl (cI, 2001, .inl kf)), (hPl, .inl (cI, 2001, .inl pf)), (hNu, .inl (cJ, 2001, .inr (.inl vf)))] := hD
    have hK : va_K (dC, dI) vwCl [(cB, .byte), (cI, .int), (cJ, .long), (cZ, .boolean)] s := hK
    have hP9 := hP.sub (ws' := [(h0, .inr (10, [.int fl, .int pl, w2, w3, .int i4, .int i5, w6, .ref hQ, .int (nI x1), .int (nI z1), w10, .int i11])), (hQ, .inr (11, [.ref hKi, .ref hPl, .ref hNu, y3, .int j4, .int j5, y6])), (hKi, .inl (cI, 2001, .inl kf)), (hPl, .inl (cI, 2001, .inl pf)), (hNu, .inl (cJ, 2001, .inr (.inl vf)))]) [0, 1, 2, 3, 4] rfl
    have hD9 := hD.sub (ws' := [(h0, .inr (10, [.int fl, .int pl, w2, w3, .int i4, .int i5, w6, .ref hQ, .int (nI x1), .int (nI z1), w10, .int i11])), (hQ, .inr (11, [.ref hKi, .ref hPl, .ref hNu, y3, .int j4, .int j5, y6])), (hKi, .inl (cI, 2001, .inl kf)), (hPl, .inl (cI, 2001, .inl pf)), (hNu, .inl (cJ, 2001, .inr (.inl vf)))]) [0, 1, 2, 3, 4] (by decide) rfl
    have hK9 := hK.sub (tys' := [(cB, .byte), (cI, .int), (cJ, .long), (cZ, .boolean)]) [0, 1, 2, 3] rfl
    exact W.vret hx hb hr (fun t_ ht hW => ⟨⟨(), rfl, trivial, by rw [ht]; exact hP9, va_K.moved hW.alike hK9, hD9⟩, hS.F ht⟩) hS.2.2 dX9_expect_30
  · skip
    exact absurd c_2 hy
theorem dX10_isLetter_0 : decode cX10_isLetter 0 = .ok (.iload_n 0, 1) := by decide +kernel
theorem dX10_isLetter_1 : decode cX10_isLetter 1 = .ok (.bipush 97, 2) := by decide +kernel
theorem dX10_isLetter_3 : decode cX10_isLetter 3 = .ok (.if_icmp .lt 13, 3) := by decide +kernel
theorem dX10_isLetter_6 : decode cX10_isLetter 6 = .ok (.iload_n 0, 1) := by decide +kernel
theorem dX10_isLetter_7 : decode cX10_isLetter 7 = .ok (.bipush 122, 2) := by decide +kernel
theorem dX10_isLetter_9 : decode cX10_isLetter 9 = .ok (.if_icmp .gt 7, 3) := by decide +kernel
theorem dX10_isLetter_12 : decode cX10_isLetter 12 = .ok (.iconst 1, 1) := by decide +kernel
theorem dX10_isLetter_13 : decode cX10_isLetter 13 = .ok (.goto 4, 3) := by decide +kernel
theorem dX10_isLetter_16 : decode cX10_isLetter 16 = .ok (.iconst 0, 1) := by decide +kernel
theorem dX10_isLetter_17 : decode cX10_isLetter 17 = .ok (.ireturn, 1) := by decide +kernel
abbrev cs_t_X10_isLetter (cB cI cJ cZ : ClassId) (x : Int32) : va_W := []
abbrev pc_t_X10_isLetter (dC : Nat → ClassId) (dI : Nat → Nat → Nat) (sz : Nat) (cB cI cJ cZ : ClassId) (x : Int32) : Array Value → State → Prop := va_Pc [.int x] (fun U => U.heap.size = sz ∧ va_P (dC, dI) vwCl [] U.heap ∧ va_K (dC, dI) vwCl [(cB, .byte), (cI, .int), (cJ, .long), (cZ, .boolean)] U ∧ va_D (fun _ => True) [])
abbrev qc_t_X10_isLetter (dC : Nat → ClassId) (dI : Nat → Nat → Nat) (cB cI cJ cZ : ClassId) (x : Int32) (A : Nat → Prop) : Array Value → State → Outcome → State → Prop := va_Qi (fun (r : Int32) (u : Unit) => match u with | _ => r = ltI x) (fun (u : Unit) t_ => match u with | _ => va_P (dC, dI) vwCl [] t_.heap ∧ va_K (dC, dI) vwCl [(cB, .byte), (cI, .int), (cJ, .long), (cZ, .boolean)] t_ ∧ va_D A []) A
set_option maxHeartbeats 4000000 in
set_option maxRecDepth 100000 in
theorem t_X10_isLetter (l : Launch) (dC : Nat → ClassId) (dI : Nat → Nat → Nat) (sz : Nat) (cB cI cJ cZ : ClassId) (x : Int32)  : Met l yX10_isLetter (wsOf yX10_isLetter cX10_isLetter 1 (some .boolean)) ({ frames := 0, cells := 0, slots := 0, locals := 0 }) (pc_t_X10_isLetter dC dI sz cB cI cJ cZ x) (qc_t_X10_isLetter dC dI cB cI cJ cZ x (va_A (cs_t_X10_isLetter cB cI cJ cZ x) sz)) 0 0 (va_A (cs_t_X10_isLetter cB cI cJ cZ x) sz) := by
  refine Met.ofW (cc := cX10_isLetter) (maxL := 1) (ret := (some .boolean)) (by decide) rfl ?_
  intro p e s m args below meth c s₁ B hml hv
  obtain ⟨rfl, hsz, hP, hK, hD0⟩ := hv
  have hx := B.exec
  have hb := B.bytes
  have hr := B.returns
  have hts := atoms_spec (ws := (wsOf yX10_isLetter cX10_isLetter 1 (some .boolean))) B.pre
  have hown : s.vm.findClass RX10 = some m.cls := findClass_of_methodNamed B.named
  have hlocks := B.notSynchronized
  subst hsz
  have hD := hD0.self (sz := s.heap.size)
  generalize hAe : va_A (cs_t_X10_isLetter cB cI cJ cZ x) s.heap.size = A at hD ⊢
  have hA : ∀ q : Nat, s.heap.size ≤ q → A q := fun q h => by rw [← hAe]; exact Or.inr h
  have hS : va_S A s.heap s.heap [] := va_S.rf
  have hP : va_P (dC, dI) vwCl [] s.heap := hP
  have hl := lv_entry ([.int x]) (n := 1) (Nat.le_of_ble_eq_true rfl)
  rw [lg_entry_eq]
  generalize (lg_sl ([.int x]) ++ List.replicate (1 - (lg_sl ([.int x])).length) Slot.unset).toArray = ls at hl ⊢
  have hl : lv_has ls 1 [(0, .int x)] := hl
  refine lv_iload_n hx hb dX10_isLetter_0 rfl (lv_at hl 0 rfl) ?_
  refine lv_bipush (v := 97) hx hb dX10_isLetter_1 (by decide) ?_
  refine lv_icmp_lt (tgt := 16) hx hb dX10_isLetter_3 (by decide) (fun c_1 => ?_) (fun c_1 => ?_)
  · skip
    refine lv_iconst (v := 0) hx hb dX10_isLetter_16 (by decide) ?_
    have hP9 := hP.sub (ws' := []) [] rfl
    have hD9 := hD.sub (ws' := []) [] (by decide) rfl
    have hK9 := hK.sub (tys' := [(cB, .byte), (cI, .int), (cJ, .long), (cZ, .boolean)]) [0, 1, 2, 3] rfl
    exact W.zret (v := 0) hx hb hr (by rfl) (fun t_ ht hW => ⟨⟨0, (), rfl, by unfold ltI; rw [if_pos c_1], by rw [ht]; exact hP9, va_K.moved hW.alike hK9, hD9⟩, hS.F ht⟩) hS.2.2 dX10_isLetter_17
  · skip
    refine lv_iload_n hx hb dX10_isLetter_6 rfl (lv_at hl 0 rfl) ?_
    refine lv_bipush (v := 122) hx hb dX10_isLetter_7 (by decide) ?_
    refine lv_icmp_gt (tgt := 16) hx hb dX10_isLetter_9 (by decide) (fun c_2 => ?_) (fun c_2 => ?_)
    · skip
      refine lv_iconst (v := 0) hx hb dX10_isLetter_16 (by decide) ?_
      have hP9 := hP.sub (ws' := []) [] rfl
      have hD9 := hD.sub (ws' := []) [] (by decide) rfl
      have hK9 := hK.sub (tys' := [(cB, .byte), (cI, .int), (cJ, .long), (cZ, .boolean)]) [0, 1, 2, 3] rfl
      exact W.zret (v := 0) hx hb hr (by rfl) (fun t_ ht hW => ⟨⟨0, (), rfl, by unfold ltI; rw [if_neg c_1, if_pos c_2], by rw [ht]; exact hP9, va_K.moved hW.alike hK9, hD9⟩, hS.F ht⟩) hS.2.2 dX10_isLetter_17
    · skip
      refine lv_iconst (v := 1) hx hb dX10_isLetter_12 (by decide) ?_
      refine lv_goto (tgt := 17) hx hb dX10_isLetter_13 (by decide) ?_
      have hP9 := hP.sub (ws' := []) [] rfl
      have hD9 := hD.sub (ws' := []) [] (by decide) rfl
      have hK9 := hK.sub (tys' := [(cB, .byte), (cI, .int), (cJ, .long), (cZ, .boolean)]) [0, 1, 2, 3] rfl
      exact W.zret (v := 1) hx hb hr (by rfl) (fun t_ ht hW => ⟨⟨1, (), rfl, by unfold ltI; rw [if_neg c_1, if_neg c_2], by rw [ht]; exact hP9, va_K.moved hW.alike hK9, hD9⟩, hS.F ht⟩) hS.2.2 dX10_isLetter_17
theorem dX10_isDigit_0 : decode cX10_isDigit 0 = .ok (.iload_n 0, 1) := by decide +kernel
theorem dX10_isDigit_1 : decode cX10_isDigit 1 = .ok (.bipush 48, 2) := by decide +kernel
theorem dX10_isDigit_3 : decode cX10_isDigit 3 = .ok (.if_icmp .lt 13, 3) := by decide +kernel
theorem dX10_isDigit_6 : decode cX10_isDigit 6 = .ok (.iload_n 0, 1) := by decide +kernel
theorem dX10_isDigit_7 : decode cX10_isDigit 7 = .ok (.bipush 57, 2) := by decide +kernel
theorem dX10_isDigit_9 : decode cX10_isDigit 9 = .ok (.if_icmp .gt 7, 3) := by decide +kernel
theorem dX10_isDigit_12 : decode cX10_isDigit 12 = .ok (.iconst 1, 1) := by decide +kernel
theorem dX10_isDigit_13 : decode cX10_isDigit 13 = .ok (.goto 4, 3) := by decide +kernel
theorem dX10_isDigit_16 : decode cX10_isDigit 16 = .ok (.iconst 0, 1) := by decide +kernel
theorem dX10_isDigit_17 : decode cX10_isDigit 17 = .ok (.ireturn, 1) := by decide +kernel
abbrev cs_t_X10_isDigit (cB cI cJ cZ : ClassId) (x : Int32) : va_W := []
abbrev pc_t_X10_isDigit (dC : Nat → ClassId) (dI : Nat → Nat → Nat) (sz : Nat) (cB cI cJ cZ : ClassId) (x : Int32) : Array Value → State → Prop := va_Pc [.int x] (fun U => U.heap.size = sz ∧ va_P (dC, dI) vwCl [] U.heap ∧ va_K (dC, dI) vwCl [(cB, .byte), (cI, .int), (cJ, .long), (cZ, .boolean)] U ∧ va_D (fun _ => True) [])
abbrev qc_t_X10_isDigit (dC : Nat → ClassId) (dI : Nat → Nat → Nat) (cB cI cJ cZ : ClassId) (x : Int32) (A : Nat → Prop) : Array Value → State → Outcome → State → Prop := va_Qi (fun (r : Int32) (u : Unit) => match u with | _ => r = dgI x) (fun (u : Unit) t_ => match u with | _ => va_P (dC, dI) vwCl [] t_.heap ∧ va_K (dC, dI) vwCl [(cB, .byte), (cI, .int), (cJ, .long), (cZ, .boolean)] t_ ∧ va_D A []) A
set_option maxHeartbeats 4000000 in
set_option maxRecDepth 100000 in
theorem t_X10_isDigit (l : Launch) (dC : Nat → ClassId) (dI : Nat → Nat → Nat) (sz : Nat) (cB cI cJ cZ : ClassId) (x : Int32)  : Met l yX10_isDigit (wsOf yX10_isDigit cX10_isDigit 1 (some .boolean)) ({ frames := 0, cells := 0, slots := 0, locals := 0 }) (pc_t_X10_isDigit dC dI sz cB cI cJ cZ x) (qc_t_X10_isDigit dC dI cB cI cJ cZ x (va_A (cs_t_X10_isDigit cB cI cJ cZ x) sz)) 0 0 (va_A (cs_t_X10_isDigit cB cI cJ cZ x) sz) := by
  refine Met.ofW (cc := cX10_isDigit) (maxL := 1) (ret := (some .boolean)) (by decide) rfl ?_
  intro p e s m args below meth c s₁ B hml hv
  obtain ⟨rfl, hsz, hP, hK, hD0⟩ := hv
  have hx := B.exec
  have hb := B.bytes
  have hr := B.returns
  have hts := atoms_spec (ws := (wsOf yX10_isDigit cX10_isDigit 1 (some .boolean))) B.pre
  have hown : s.vm.findClass RX10 = some m.cls := findClass_of_methodNamed B.named
  have hlocks := B.notSynchronized
  subst hsz
  have hD := hD0.self (sz := s.heap.size)
  generalize hAe : va_A (cs_t_X10_isDigit cB cI cJ cZ x) s.heap.size = A at hD ⊢
  have hA : ∀ q : Nat, s.heap.size ≤ q → A q := fun q h => by rw [← hAe]; exact Or.inr h
  have hS : va_S A s.heap s.heap [] := va_S.rf
  have hP : va_P (dC, dI) vwCl [] s.heap := hP
  have hl := lv_entry ([.int x]) (n := 1) (Nat.le_of_ble_eq_true rfl)
  rw [lg_entry_eq]
  generalize (lg_sl ([.int x]) ++ List.replicate (1 - (lg_sl ([.int x])).length) Slot.unset).toArray = ls at hl ⊢
  have hl : lv_has ls 1 [(0, .int x)] := hl
  refine lv_iload_n hx hb dX10_isDigit_0 rfl (lv_at hl 0 rfl) ?_
  refine lv_bipush (v := 48) hx hb dX10_isDigit_1 (by decide) ?_
  refine lv_icmp_lt (tgt := 16) hx hb dX10_isDigit_3 (by decide) (fun c_1 => ?_) (fun c_1 => ?_)
  · skip
    refine lv_iconst (v := 0) hx hb dX10_isDigit_16 (by decide) ?_
    have hP9 := hP.sub (ws' := []) [] rfl
    have hD9 := hD.sub (ws' := []) [] (by decide) rfl
    have hK9 := hK.sub (tys' := [(cB, .byte), (cI, .int), (cJ, .long), (cZ, .boolean)]) [0, 1, 2, 3] rfl
    exact W.zret (v := 0) hx hb hr (by rfl) (fun t_ ht hW => ⟨⟨0, (), rfl, by unfold dgI; rw [if_pos c_1], by rw [ht]; exact hP9, va_K.moved hW.alike hK9, hD9⟩, hS.F ht⟩) hS.2.2 dX10_isDigit_17
  · skip
    refine lv_iload_n hx hb dX10_isDigit_6 rfl (lv_at hl 0 rfl) ?_
    refine lv_bipush (v := 57) hx hb dX10_isDigit_7 (by decide) ?_
    refine lv_icmp_gt (tgt := 16) hx hb dX10_isDigit_9 (by decide) (fun c_2 => ?_) (fun c_2 => ?_)
    · skip
      refine lv_iconst (v := 0) hx hb dX10_isDigit_16 (by decide) ?_
      have hP9 := hP.sub (ws' := []) [] rfl
      have hD9 := hD.sub (ws' := []) [] (by decide) rfl
      have hK9 := hK.sub (tys' := [(cB, .byte), (cI, .int), (cJ, .long), (cZ, .boolean)]) [0, 1, 2, 3] rfl
      exact W.zret (v := 0) hx hb hr (by rfl) (fun t_ ht hW => ⟨⟨0, (), rfl, by unfold dgI; rw [if_neg c_1, if_pos c_2], by rw [ht]; exact hP9, va_K.moved hW.alike hK9, hD9⟩, hS.F ht⟩) hS.2.2 dX10_isDigit_17
    · skip
      refine lv_iconst (v := 1) hx hb dX10_isDigit_12 (by decide) ?_
      refine lv_goto (tgt := 17) hx hb dX10_isDigit_13 (by decide) ?_
      have hP9 := hP.sub (ws' := []) [] rfl
      have hD9 := hD.sub (ws' := []) [] (by decide) rfl
      have hK9 := hK.sub (tys' := [(cB, .byte), (cI, .int), (cJ, .long), (cZ, .boolean)]) [0, 1, 2, 3] rfl
      exact W.zret (v := 1) hx hb hr (by rfl) (fun t_ ht hW => ⟨⟨1, (), rfl, by unfold dgI; rw [if_neg c_1, if_neg c_2], by rw [ht]; exact hP9, va_K.moved hW.alike hK9, hD9⟩, hS.F ht⟩) hS.2.2 dX10_isDigit_17
theorem dX10_isBlankByte_0 : decode cX10_isBlankByte 0 = .ok (.iload_n 0, 1) := by decide +kernel
theorem dX10_isBlankByte_1 : decode cX10_isBlankByte 1 = .ok (.bipush 32, 2) := by decide +kernel
theorem dX10_isBlankByte_3 : decode cX10_isBlankByte 3 = .ok (.if_icmp .eq 21, 3) := by decide +kernel
theorem dX10_isBlankByte_6 : decode cX10_isBlankByte 6 = .ok (.iload_n 0, 1) := by decide +kernel
theorem dX10_isBlankByte_7 : decode cX10_isBlankByte 7 = .ok (.bipush 9, 2) := by decide +kernel
theorem dX10_isBlankByte_9 : decode cX10_isBlankByte 9 = .ok (.if_icmp .eq 15, 3) := by decide +kernel
theorem dX10_isBlankByte_12 : decode cX10_isBlankByte 12 = .ok (.iload_n 0, 1) := by decide +kernel
theorem dX10_isBlankByte_13 : decode cX10_isBlankByte 13 = .ok (.bipush 13, 2) := by decide +kernel
theorem dX10_isBlankByte_15 : decode cX10_isBlankByte 15 = .ok (.if_icmp .eq 9, 3) := by decide +kernel
theorem dX10_isBlankByte_18 : decode cX10_isBlankByte 18 = .ok (.iload_n 0, 1) := by decide +kernel
theorem dX10_isBlankByte_19 : decode cX10_isBlankByte 19 = .ok (.bipush 10, 2) := by decide +kernel
theorem dX10_isBlankByte_21 : decode cX10_isBlankByte 21 = .ok (.if_icmp .ne 7, 3) := by decide +kernel
theorem dX10_isBlankByte_24 : decode cX10_isBlankByte 24 = .ok (.iconst 1, 1) := by decide +kernel
theorem dX10_isBlankByte_25 : decode cX10_isBlankByte 25 = .ok (.goto 4, 3) := by decide +kernel
theorem dX10_isBlankByte_28 : decode cX10_isBlankByte 28 = .ok (.iconst 0, 1) := by decide +kernel
theorem dX10_isBlankByte_29 : decode cX10_isBlankByte 29 = .ok (.ireturn, 1) := by decide +kernel
abbrev cs_t_X10_isBlankByte (cB cI cJ cZ : ClassId) (x : Int32) : va_W := []
abbrev pc_t_X10_isBlankByte (dC : Nat → ClassId) (dI : Nat → Nat → Nat) (sz : Nat) (cB cI cJ cZ : ClassId) (x : Int32) : Array Value → State → Prop := va_Pc [.int x] (fun U => U.heap.size = sz ∧ va_P (dC, dI) vwCl [] U.heap ∧ va_K (dC, dI) vwCl [(cB, .byte), (cI, .int), (cJ, .long), (cZ, .boolean)] U ∧ va_D (fun _ => True) [])
abbrev qc_t_X10_isBlankByte (dC : Nat → ClassId) (dI : Nat → Nat → Nat) (cB cI cJ cZ : ClassId) (x : Int32) (A : Nat → Prop) : Array Value → State → Outcome → State → Prop := va_Qi (fun (r : Int32) (u : Unit) => match u with | _ => r = bkI x) (fun (u : Unit) t_ => match u with | _ => va_P (dC, dI) vwCl [] t_.heap ∧ va_K (dC, dI) vwCl [(cB, .byte), (cI, .int), (cJ, .long), (cZ, .boolean)] t_ ∧ va_D A []) A
set_option maxHeartbeats 4000000 in
set_option maxRecDepth 100000 in
theorem t_X10_isBlankByte (l : Launch) (dC : Nat → ClassId) (dI : Nat → Nat → Nat) (sz : Nat) (cB cI cJ cZ : ClassId) (x : Int32)  : Met l yX10_isBlankByte (wsOf yX10_isBlankByte cX10_isBlankByte 1 (some .boolean)) ({ frames := 0, cells := 0, slots := 0, locals := 0 }) (pc_t_X10_isBlankByte dC dI sz cB cI cJ cZ x) (qc_t_X10_isBlankByte dC dI cB cI cJ cZ x (va_A (cs_t_X10_isBlankByte cB cI cJ cZ x) sz)) 0 0 (va_A (cs_t_X10_isBlankByte cB cI cJ cZ x) sz) := by
  refine Met.ofW (cc := cX10_isBlankByte) (maxL := 1) (ret := (some .boolean)) (by decide) rfl ?_
  intro p e s m args below meth c s₁ B hml hv
  obtain ⟨rfl, hsz, hP, hK, hD0⟩ := hv
  have hx := B.exec
  have hb := B.bytes
  have hr := B.returns
  have hts := atoms_spec (ws := (wsOf yX10_isBlankByte cX10_isBlankByte 1 (some .boolean))) B.pre
  have hown : s.vm.findClass RX10 = some m.cls := findClass_of_methodNamed B.named
  have hlocks := B.notSynchronized
  subst hsz
  have hD := hD0.self (sz := s.heap.size)
  generalize hAe : va_A (cs_t_X10_isBlankByte cB cI cJ cZ x) s.heap.size = A at hD ⊢
  have hA : ∀ q : Nat, s.heap.size ≤ q → A q := fun q h => by rw [← hAe]; exact Or.inr h
  have hS : va_S A s.heap s.heap [] := va_S.rf
  have hP : va_P (dC, dI) vwCl [] s.heap := hP
  have hl := lv_entry ([.int x]) (n := 1) (Nat.le_of_ble_eq_true rfl)
  rw [lg_entry_eq]
  generalize (lg_sl ([.int x]) ++ List.replicate (1 - (lg_sl ([.int x])).length) Slot.unset).toArray = ls at hl ⊢
  have hl : lv_has ls 1 [(0, .int x)] := hl
  refine lv_iload_n hx hb dX10_isBlankByte_0 rfl (lv_at hl 0 rfl) ?_
  refine lv_bipush (v := 32) hx hb dX10_isBlankByte_1 (by decide) ?_
  refine lv_icmp_eq (tgt := 24) hx hb dX10_isBlankByte_3 (by decide) (fun c_1 => ?_) (fun c_1 => ?_)
  · skip
    refine lv_iconst (v := 1) hx hb dX10_isBlankByte_24 (by decide) ?_
    refine lv_goto (tgt := 29) hx hb dX10_isBlankByte_25 (by decide) ?_
    have hP9 := hP.sub (ws' := []) [] rfl
    have hD9 := hD.sub (ws' := []) [] (by decide) rfl
    have hK9 := hK.sub (tys' := [(cB, .byte), (cI, .int), (cJ, .long), (cZ, .boolean)]) [0, 1, 2, 3] rfl
    exact W.zret (v := 1) hx hb hr (by rfl) (fun t_ ht hW => ⟨⟨1, (), rfl, by unfold bkI; rw [if_pos c_1], by rw [ht]; exact hP9, va_K.moved hW.alike hK9, hD9⟩, hS.F ht⟩) hS.2.2 dX10_isBlankByte_29
  · skip
    refine lv_iload_n hx hb dX10_isBlankByte_6 rfl (lv_at hl 0 rfl) ?_
    refine lv_bipush (v := 9) hx hb dX10_isBlankByte_7 (by decide) ?_
    refine lv_icmp_eq (tgt := 24) hx hb dX10_isBlankByte_9 (by decide) (fun c_2 => ?_) (fun c_2 => ?_)
    · skip
      refine lv_iconst (v := 1) hx hb dX10_isBlankByte_24 (by decide) ?_
      refine lv_goto (tgt := 29) hx hb dX10_isBlankByte_25 (by decide) ?_
      have hP9 := hP.sub (ws' := []) [] rfl
      have hD9 := hD.sub (ws' := []) [] (by decide) rfl
      have hK9 := hK.sub (tys' := [(cB, .byte), (cI, .int), (cJ, .long), (cZ, .boolean)]) [0, 1, 2, 3] rfl
      exact W.zret (v := 1) hx hb hr (by rfl) (fun t_ ht hW => ⟨⟨1, (), rfl, by unfold bkI; rw [if_neg c_1, if_pos c_2], by rw [ht]; exact hP9, va_K.moved hW.alike hK9, hD9⟩, hS.F ht⟩) hS.2.2 dX10_isBlankByte_29
    · skip
      refine lv_iload_n hx hb dX10_isBlankByte_12 rfl (lv_at hl 0 rfl) ?_
      refine lv_bipush (v := 13) hx hb dX10_isBlankByte_13 (by decide) ?_
      refine lv_icmp_eq (tgt := 24) hx hb dX10_isBlankByte_15 (by decide) (fun c_3 => ?_) (fun c_3 => ?_)
      · skip
        refine lv_iconst (v := 1) hx hb dX10_isBlankByte_24 (by decide) ?_
        refine lv_goto (tgt := 29) hx hb dX10_isBlankByte_25 (by decide) ?_
        have hP9 := hP.sub (ws' := []) [] rfl
        have hD9 := hD.sub (ws' := []) [] (by decide) rfl
        have hK9 := hK.sub (tys' := [(cB, .byte), (cI, .int), (cJ, .long), (cZ, .boolean)]) [0, 1, 2, 3] rfl
        exact W.zret (v := 1) hx hb hr (by rfl) (fun t_ ht hW => ⟨⟨1, (), rfl, by unfold bkI; rw [if_neg c_1, if_neg c_2, if_pos c_3], by rw [ht]; exact hP9, va_K.moved hW.alike hK9, hD9⟩, hS.F ht⟩) hS.2.2 dX10_isBlankByte_29
      · skip
        refine lv_iload_n hx hb dX10_isBlankByte_18 rfl (lv_at hl 0 rfl) ?_
        refine lv_bipush (v := 10) hx hb dX10_isBlankByte_19 (by decide) ?_
        refine lv_icmp_ne (tgt := 28) hx hb dX10_isBlankByte_21 (by decide) (fun c_4 => ?_) (fun c_4 => ?_)
        · skip
          refine lv_iconst (v := 0) hx hb dX10_isBlankByte_28 (by decide) ?_
          have hP9 := hP.sub (ws' := []) [] rfl
          have hD9 := hD.sub (ws' := []) [] (by decide) rfl
          have hK9 := hK.sub (tys' := [(cB, .byte), (cI, .int), (cJ, .long), (cZ, .boolean)]) [0, 1, 2, 3] rfl
          exact W.zret (v := 0) hx hb hr (by rfl) (fun t_ ht hW => ⟨⟨0, (), rfl, by unfold bkI; rw [if_neg c_1, if_neg c_2, if_neg c_3, if_neg c_4], by rw [ht]; exact hP9, va_K.moved hW.alike hK9, hD9⟩, hS.F ht⟩) hS.2.2 dX10_isBlankByte_29
        · skip
          refine lv_iconst (v := 1) hx hb dX10_isBlankByte_24 (by decide) ?_
          refine lv_goto (tgt := 29) hx hb dX10_isBlankByte_25 (by decide) ?_
          have hP9 := hP.sub (ws' := []) [] rfl
          have hD9 := hD.sub (ws' := []) [] (by decide) rfl
          have hK9 := hK.sub (tys' := [(cB, .byte), (cI, .int), (cJ, .long), (cZ, .boolean)]) [0, 1, 2, 3] rfl
          exact W.zret (v := 1) hx hb hr (by rfl) (fun t_ ht hW => ⟨⟨1, (), rfl, by unfold bkI; rw [if_neg c_1, if_neg c_2, if_neg c_3, if_pos c_4], by rw [ht]; exact hP9, va_K.moved hW.alike hK9, hD9⟩, hS.F ht⟩) hS.2.2 dX10_isBlankByte_29
theorem dX12_isLetter_0 : decode cX12_isLetter 0 = .ok (.iload_n 0, 1) := by decide +kernel
theorem dX12_isLetter_1 : decode cX12_isLetter 1 = .ok (.bipush 97, 2) := by decide +kernel
theorem dX12_isLetter_3 : decode cX12_isLetter 3 = .ok (.if_icmp .lt 13, 3) := by decide +kernel
theorem dX12_isLetter_6 : decode cX12_isLetter 6 = .ok (.iload_n 0, 1) := by decide +kernel
theorem dX12_isLetter_7 : decode cX12_isLetter 7 = .ok (.bipush 122, 2) := by decide +kernel
theorem dX12_isLetter_9 : decode cX12_isLetter 9 = .ok (.if_icmp .gt 7, 3) := by decide +kernel
theorem dX12_isLetter_12 : decode cX12_isLetter 12 = .ok (.iconst 1, 1) := by decide +kernel
theorem dX12_isLetter_13 : decode cX12_isLetter 13 = .ok (.goto 4, 3) := by decide +kernel
theorem dX12_isLetter_16 : decode cX12_isLetter 16 = .ok (.iconst 0, 1) := by decide +kernel
theorem dX12_isLetter_17 : decode cX12_isLetter 17 = .ok (.ireturn, 1) := by decide +kernel
abbrev cs_t_X12_isLetter (cB cI cJ cZ : ClassId) (x : Int32) : va_W := []
abbrev pc_t_X12_isLetter (dC : Nat → ClassId) (dI : Nat → Nat → Nat) (sz : Nat) (cB cI cJ cZ : ClassId) (x : Int32) : Array Value → State → Prop := va_Pc [.int x] (fun U => U.heap.size = sz ∧ va_P (dC, dI) vwCl [] U.heap ∧ va_K (dC, dI) vwCl [(cB, .byte), (cI, .int), (cJ, .long), (cZ, .boolean)] U ∧ va_D (fun _ => True) [])
abbrev qc_t_X12_isLetter (dC : Nat → ClassId) (dI : Nat → Nat → Nat) (cB cI cJ cZ : ClassId) (x : Int32) (A : Nat → Prop) : Array Value → State → Outcome → State → Prop := va_Qi (fun (r : Int32) (u : Unit) => match u with | _ => r = ltI x) (fun (u : Unit) t_ => match u with | _ => va_P (dC, dI) vwCl [] t_.heap ∧ va_K (dC, dI) vwCl [(cB, .byte), (cI, .int), (cJ, .long), (cZ, .boolean)] t_ ∧ va_D A []) A
set_option maxHeartbeats 4000000 in
set_option maxRecDepth 100000 in
theorem t_X12_isLetter (l : Launch) (dC : Nat → ClassId) (dI : Nat → Nat → Nat) (sz : Nat) (cB cI cJ cZ : ClassId) (x : Int32)  : Met l yX12_isLetter (wsOf yX12_isLetter cX12_isLetter 1 (some .boolean)) ({ frames := 0, cells := 0, slots := 0, locals := 0 }) (pc_t_X12_isLetter dC dI sz cB cI cJ cZ x) (qc_t_X12_isLetter dC dI cB cI cJ cZ x (va_A (cs_t_X12_isLetter cB cI cJ cZ x) sz)) 0 0 (va_A (cs_t_X12_isLetter cB cI cJ cZ x) sz) := by
  refine Met.ofW (cc := cX12_isLetter) (maxL := 1) (ret := (some .boolean)) (by decide) rfl ?_
  intro p e s m args below meth c s₁ B hml hv
  obtain ⟨rfl, hsz, hP, hK, hD0⟩ := hv
  have hx := B.exec
  have hb := B.bytes
  have hr := B.returns
  have hts := atoms_spec (ws := (wsOf yX12_isLetter cX12_isLetter 1 (some .boolean))) B.pre
  have hown : s.vm.findClass RX12 = some m.cls := findClass_of_methodNamed B.named
  have hlocks := B.notSynchronized
  subst hsz
  have hD := hD0.self (sz := s.heap.size)
  generalize hAe : va_A (cs_t_X12_isLetter cB cI cJ cZ x) s.heap.size = A at hD ⊢
  have hA : ∀ q : Nat, s.heap.size ≤ q → A q := fun q h => by rw [← hAe]; exact Or.inr h
  have hS : va_S A s.heap s.heap [] := va_S.rf
  have hP : va_P (dC, dI) vwCl [] s.heap := hP
  have hl := lv_entry ([.int x]) (n := 1) (Nat.le_of_ble_eq_true rfl)
  rw [lg_entry_eq]
  generalize (lg_sl ([.int x]) ++ List.replicate (1 - (lg_sl ([.int x])).length) Slot.unset).toArray = ls at hl ⊢
  have hl : lv_has ls 1 [(0, .int x)] := hl
  refine lv_iload_n hx hb dX12_isLetter_0 rfl (lv_at hl 0 rfl) ?_
  refine lv_bipush (v := 97) hx hb dX12_isLetter_1 (by decide) ?_
  refine lv_icmp_lt (tgt := 16) hx hb dX12_isLetter_3 (by decide) (fun c_1 => ?_) (fun c_1 => ?_)
  · skip
    refine lv_iconst (v := 0) hx hb dX12_isLetter_16 (by decide) ?_
    have hP9 := hP.sub (ws' := []) [] rfl
    have hD9 := hD.sub (ws' := []) [] (by decide) rfl
    have hK9 := hK.sub (tys' := [(cB, .byte), (cI, .int), (cJ, .long), (cZ, .boolean)]) [0, 1, 2, 3] rfl
    exact W.zret (v := 0) hx hb hr (by rfl) (fun t_ ht hW => ⟨⟨0, (), rfl, by unfold ltI; rw [if_pos c_1], by rw [ht]; exact hP9, va_K.moved hW.alike hK9, hD9⟩, hS.F ht⟩) hS.2.2 dX12_isLetter_17
  · skip
    refine lv_iload_n hx hb dX12_isLetter_6 rfl (lv_at hl 0 rfl) ?_
    refine lv_bipush (v := 122) hx hb dX12_isLetter_7 (by decide) ?_
    refine lv_icmp_gt (tgt := 16) hx hb dX12_isLetter_9 (by decide) (fun c_2 => ?_) (fun c_2 => ?_)
    · skip
      refine lv_iconst (v := 0) hx hb dX12_isLetter_16 (by decide) ?_
      have hP9 := hP.sub (ws' := []) [] rfl
      have hD9 := hD.sub (ws' := []) [] (by decide) rfl
      have hK9 := hK.sub (tys' := [(cB, .byte), (cI, .int), (cJ, .long), (cZ, .boolean)]) [0, 1, 2, 3] rfl
      exact W.zret (v := 0) hx hb hr (by rfl) (fun t_ ht hW => ⟨⟨0, (), rfl, by unfold ltI; rw [if_neg c_1, if_pos c_2], by rw [ht]; exact hP9, va_K.moved hW.alike hK9, hD9⟩, hS.F ht⟩) hS.2.2 dX12_isLetter_17
    · skip
      refine lv_iconst (v := 1) hx hb dX12_isLetter_12 (by decide) ?_
      refine lv_goto (tgt := 17) hx hb dX12_isLetter_13 (by decide) ?_
      have hP9 := hP.sub (ws' := []) [] rfl
      have hD9 := hD.sub (ws' := []) [] (by decide) rfl
      have hK9 := hK.sub (tys' := [(cB, .byte), (cI, .int), (cJ, .long), (cZ, .boolean)]) [0, 1, 2, 3] rfl
      exact W.zret (v := 1) hx hb hr (by rfl) (fun t_ ht hW => ⟨⟨1, (), rfl, by unfold ltI; rw [if_neg c_1, if_neg c_2], by rw [ht]; exact hP9, va_K.moved hW.alike hK9, hD9⟩, hS.F ht⟩) hS.2.2 dX12_isLetter_17
theorem dX12_isDigit_0 : decode cX12_isDigit 0 = .ok (.iload_n 0, 1) := by decide +kernel
theorem dX12_isDigit_1 : decode cX12_isDigit 1 = .ok (.bipush 48, 2) := by decide +kernel
theorem dX12_isDigit_3 : decode cX12_isDigit 3 = .ok (.if_icmp .lt 13, 3) := by decide +kernel
theorem dX12_isDigit_6 : decode cX12_isDigit 6 = .ok (.iload_n 0, 1) := by decide +kernel
theorem dX12_isDigit_7 : decode cX12_isDigit 7 = .ok (.bipush 57, 2) := by decide +kernel
theorem dX12_isDigit_9 : decode cX12_isDigit 9 = .ok (.if_icmp .gt 7, 3) := by decide +kernel
theorem dX12_isDigit_12 : decode cX12_isDigit 12 = .ok (.iconst 1, 1) := by decide +kernel
theorem dX12_isDigit_13 : decode cX12_isDigit 13 = .ok (.goto 4, 3) := by decide +kernel
theorem dX12_isDigit_16 : decode cX12_isDigit 16 = .ok (.iconst 0, 1) := by decide +kernel
theorem dX12_isDigit_17 : decode cX12_isDigit 17 = .ok (.ireturn, 1) := by decide +kernel
abbrev cs_t_X12_isDigit (cB cI cJ cZ : ClassId) (x : Int32) : va_W := []
abbrev pc_t_X12_isDigit (dC : Nat → ClassId) (dI : Nat → Nat → Nat) (sz : Nat) (cB cI cJ cZ : ClassId) (x : Int32) : Array Value → State → Prop := va_Pc [.int x] (fun U => U.heap.size = sz ∧ va_P (dC, dI) vwCl [] U.heap ∧ va_K (dC, dI) vwCl [(cB, .byte), (cI, .int), (cJ, .long), (cZ, .boolean)] U ∧ va_D (fun _ => True) [])
abbrev qc_t_X12_isDigit (dC : Nat → ClassId) (dI : Nat → Nat → Nat) (cB cI cJ cZ : ClassId) (x : Int32) (A : Nat → Prop) : Array Value → State → Outcome → State → Prop := va_Qi (fun (r : Int32) (u : Unit) => match u with | _ => r = dgI x) (fun (u : Unit) t_ => match u with | _ => va_P (dC, dI) vwCl [] t_.heap ∧ va_K (dC, dI) vwCl [(cB, .byte), (cI, .int), (cJ, .long), (cZ, .boolean)] t_ ∧ va_D A []) A
set_option maxHeartbeats 4000000 in
set_option maxRecDepth 100000 in
theorem t_X12_isDigit (l : Launch) (dC : Nat → ClassId) (dI : Nat → Nat → Nat) (sz : Nat) (cB cI cJ cZ : ClassId) (x : Int32)  : Met l yX12_isDigit (wsOf yX12_isDigit cX12_isDigit 1 (some .boolean)) ({ frames := 0, cells := 0, slots := 0, locals := 0 }) (pc_t_X12_isDigit dC dI sz cB cI cJ cZ x) (qc_t_X12_isDigit dC dI cB cI cJ cZ x (va_A (cs_t_X12_isDigit cB cI cJ cZ x) sz)) 0 0 (va_A (cs_t_X12_isDigit cB cI cJ cZ x) sz) := by
  refine Met.ofW (cc := cX12_isDigit) (maxL := 1) (ret := (some .boolean)) (by decide) rfl ?_
  intro p e s m args below meth c s₁ B hml hv
  obtain ⟨rfl, hsz, hP, hK, hD0⟩ := hv
  have hx := B.exec
  have hb := B.bytes
  have hr := B.returns
  have hts := atoms_spec (ws := (wsOf yX12_isDigit cX12_isDigit 1 (some .boolean))) B.pre
  have hown : s.vm.findClass RX12 = some m.cls := findClass_of_methodNamed B.named
  have hlocks := B.notSynchronized
  subst hsz
  have hD := hD0.self (sz := s.heap.size)
  generalize hAe : va_A (cs_t_X12_isDigit cB cI cJ cZ x) s.heap.size = A at hD ⊢
  have hA : ∀ q : Nat, s.heap.size ≤ q → A q := fun q h => by rw [← hAe]; exact Or.inr h
  have hS : va_S A s.heap s.heap [] := va_S.rf
  have hP : va_P (dC, dI) vwCl [] s.heap := hP
  have hl := lv_entry ([.int x]) (n := 1) (Nat.le_of_ble_eq_true rfl)
  rw [lg_entry_eq]
  generalize (lg_sl ([.int x]) ++ List.replicate (1 - (lg_sl ([.int x])).length) Slot.unset).toArray = ls at hl ⊢
  have hl : lv_has ls 1 [(0, .int x)] := hl
  refine lv_iload_n hx hb dX12_isDigit_0 rfl (lv_at hl 0 rfl) ?_
  refine lv_bipush (v := 48) hx hb dX12_isDigit_1 (by decide) ?_
  refine lv_icmp_lt (tgt := 16) hx hb dX12_isDigit_3 (by decide) (fun c_1 => ?_) (fun c_1 => ?_)
  · skip
    refine lv_iconst (v := 0) hx hb dX12_isDigit_16 (by decide) ?_
    have hP9 := hP.sub (ws' := []) [] rfl
    have hD9 := hD.sub (ws' := []) [] (by decide) rfl
    have hK9 := hK.sub (tys' := [(cB, .byte), (cI, .int), (cJ, .long), (cZ, .boolean)]) [0, 1, 2, 3] rfl
    exact W.zret (v := 0) hx hb hr (by rfl) (fun t_ ht hW => ⟨⟨0, (), rfl, by unfold dgI; rw [if_pos c_1], by rw [ht]; exact hP9, va_K.moved hW.alike hK9, hD9⟩, hS.F ht⟩) hS.2.2 dX12_isDigit_17
  · skip
    refine lv_iload_n hx hb dX12_isDigit_6 rfl (lv_at hl 0 rfl) ?_
    refine lv_bipush (v := 57) hx hb dX12_isDigit_7 (by decide) ?_
    refine lv_icmp_gt (tgt := 16) hx hb dX12_isDigit_9 (by decide) (fun c_2 => ?_) (fun c_2 => ?_)
    · skip
      refine lv_iconst (v := 0) hx hb dX12_isDigit_16 (by decide) ?_
      have hP9 := hP.sub (ws' := []) [] rfl
      have hD9 := hD.sub (ws' := []) [] (by decide) rfl
      have hK9 := hK.sub (tys' := [(cB, .byte), (cI, .int), (cJ, .long), (cZ, .boolean)]) [0, 1, 2, 3] rfl
      exact W.zret (v := 0) hx hb hr (by rfl) (fun t_ ht hW => ⟨⟨0, (), rfl, by unfold dgI; rw [if_neg c_1, if_pos c_2], by rw [ht]; exact hP9, va_K.moved hW.alike hK9, hD9⟩, hS.F ht⟩) hS.2.2 dX12_isDigit_17
    · skip
      refine lv_iconst (v := 1) hx hb dX12_isDigit_12 (by decide) ?_
      refine lv_goto (tgt := 17) hx hb dX12_isDigit_13 (by decide) ?_
      have hP9 := hP.sub (ws' := []) [] rfl
      have hD9 := hD.sub (ws' := []) [] (by decide) rfl
      have hK9 := hK.sub (tys' := [(cB, .byte), (cI, .int), (cJ, .long), (cZ, .boolean)]) [0, 1, 2, 3] rfl
      exact W.zret (v := 1) hx hb hr (by rfl) (fun t_ ht hW => ⟨⟨1, (), rfl, by unfold dgI; rw [if_neg c_1, if_neg c_2], by rw [ht]; exact hP9, va_K.moved hW.alike hK9, hD9⟩, hS.F ht⟩) hS.2.2 dX12_isDigit_17
theorem dX10_letterCode_0 : decode cX10_letterCode 0 = .ok (.iload_n 0, 1) := by decide +kernel
theorem dX10_letterCode_1 : decode cX10_letterCode 1 = .ok (.invokestatic 77, 3) := by decide +kernel
theorem dX10_letterCode_4 : decode cX10_letterCode 4 = .ok (.ifCond .eq 13, 3) := by decide +kernel
theorem dX10_letterCode_7 : decode cX10_letterCode 7 = .ok (.iload_n 0, 1) := by decide +kernel
theorem dX10_letterCode_8 : decode cX10_letterCode 8 = .ok (.bipush 48, 2) := by decide +kernel
theorem dX10_letterCode_10 : decode cX10_letterCode 10 = .ok (.isub, 1) := by decide +kernel
theorem dX10_letterCode_11 : decode cX10_letterCode 11 = .ok (.bipush 27, 2) := by decide +kernel
theorem dX10_letterCode_13 : decode cX10_letterCode 13 = .ok (.iadd, 1) := by decide +kernel
theorem dX10_letterCode_14 : decode cX10_letterCode 14 = .ok (.goto 9, 3) := by decide +kernel
theorem dX10_letterCode_17 : decode cX10_letterCode 17 = .ok (.iload_n 0, 1) := by decide +kernel
theorem dX10_letterCode_18 : decode cX10_letterCode 18 = .ok (.bipush 97, 2) := by decide +kernel
theorem dX10_letterCode_20 : decode cX10_letterCode 20 = .ok (.isub, 1) := by decide +kernel
theorem dX10_letterCode_21 : decode cX10_letterCode 21 = .ok (.iconst 1, 1) := by decide +kernel
theorem dX10_letterCode_22 : decode cX10_letterCode 22 = .ok (.iadd, 1) := by decide +kernel
theorem dX10_letterCode_23 : decode cX10_letterCode 23 = .ok (.ireturn, 1) := by decide +kernel
abbrev cs_t_X10_letterCode (cB cI cJ cZ : ClassId) (x : Int32) : va_W := []
abbrev pc_t_X10_letterCode (dC : Nat → ClassId) (dI : Nat → Nat → Nat) (sz : Nat) (cB cI cJ cZ : ClassId) (x : Int32) : Array Value → State → Prop := va_Pc [.int x] (fun U => U.heap.size = sz ∧ va_P (dC, dI) vwCl [] U.heap ∧ va_K (dC, dI) vwCl [(cB, .byte), (cI, .int), (cJ, .long), (cZ, .boolean)] U ∧ va_D (fun _ => True) [])
abbrev qc_t_X10_letterCode (dC : Nat → ClassId) (dI : Nat → Nat → Nat) (cB cI cJ cZ : ClassId) (x : Int32) (A : Nat → Prop) : Array Value → State → Outcome → State → Prop := va_Qi (fun (r : Int32) (u : Unit) => match u with | _ => r = lcd x) (fun (u : Unit) t_ => match u with | _ => va_P (dC, dI) vwCl [] t_.heap ∧ va_K (dC, dI) vwCl [(cB, .byte), (cI, .int), (cJ, .long), (cZ, .boolean)] t_ ∧ va_D A []) A
set_option maxHeartbeats 4000000 in
set_option maxRecDepth 100000 in
theorem t_X10_letterCode (l : Launch) (dC : Nat → ClassId) (dI : Nat → Nat → Nat) (sz : Nat) (cB cI cJ cZ : ClassId) (x : Int32)  : Met l yX10_letterCode (wsOf yX10_letterCode cX10_letterCode 1 (some .int)) ({ frames := 1, cells := 0, slots := 0, locals := 60 }) (pc_t_X10_letterCode dC dI sz cB cI cJ cZ x) (qc_t_X10_letterCode dC dI cB cI cJ cZ x (va_A (cs_t_X10_letterCode cB cI cJ cZ x) sz)) 0 0 (va_A (cs_t_X10_letterCode cB cI cJ cZ x) sz) := by
  refine Met.ofW (cc := cX10_letterCode) (maxL := 1) (ret := (some .int)) (by decide) rfl ?_
  intro p e s m args below meth c s₁ B hml hv
  obtain ⟨rfl, hsz, hP, hK, hD0⟩ := hv
  have hx := B.exec
  have hb := B.bytes
  have hr := B.returns
  have hts := atoms_spec (ws := (wsOf yX10_letterCode cX10_letterCode 1 (some .int))) B.pre
  have hown : s.vm.findClass RX10 = some m.cls := findClass_of_methodNamed B.named
  have hlocks := B.notSynchronized
  subst hsz
  have hD := hD0.self (sz := s.heap.size)
  generalize hAe : va_A (cs_t_X10_letterCode cB cI cJ cZ x) s.heap.size = A at hD ⊢
  have hA : ∀ q : Nat, s.heap.size ≤ q → A q := fun q h => by rw [← hAe]; exact Or.inr h
  have hS : va_S A s.heap s.heap [] := va_S.rf
  have hP : va_P (dC, dI) vwCl [] s.heap := hP
  have hl := lv_entry ([.int x]) (n := 1) (Nat.le_of_ble_eq_true rfl)
  rw [lg_entry_eq]
  generalize (lg_sl ([.int x]) ++ List.replicate (1 - (lg_sl ([.int x])).length) Slot.unset).toArray = ls at hl ⊢
  have hl : lv_has ls 1 [(0, .int x)] := hl
  refine lv_iload_n hx hb dX10_letterCode_0 rfl (lv_at hl 0 rfl) ?_
  have hPc := hP.sub (ws' := []) [] rfl
  have hDc := hD.sub (ws' := []) [] (by decide) rfl
  have hKc := hK.sub (tys' := [(cB, .byte), (cI, .int), (cJ, .long), (cZ, .boolean)]) [0, 1, 2, 3] rfl
  have hFc := va_free (wc := []) hD hS hA [] rfl
  refine va_calli (va_runS (As := [.int x]) (rest := []) ⟨hx, hb, hml, hown, hts⟩ (t_X10_isDigit l dC dI s.heap.size cB cI cJ cZ x) ⟨callB_of 1 hts (gd_all (in_I kc_X10_isDigit)) rfl rfl rfl (hts _ (List.mem_cons_of_mem _ kw_183)) (hts _ (List.mem_cons_of_mem _ kw_315)) (by decide +kernel) ⟨Nat.le_of_ble_eq_true rfl, Nat.le_of_ble_eq_true rfl⟩, hts _ (List.mem_cons_of_mem _ kw_316)⟩ ⟨fun a U g mk q => by obtain ⟨q0, q1, qP, qK, qD⟩ := q; exact ⟨q0, q1, qP, va_K.moved (u := U) (U := U.calling g mk a) (Vm.Alike.refl U.vm) qK, qD⟩, fun U hU hW => ⟨rfl, by rw [hU], by rw [hU]; exact hPc, va_K.moved hW.alike hKc, hDc.weaken (fun _ _ _ _ => trivial)⟩⟩ rfl rfl hl.1 rfl (lv_room (Nat.le_of_ble_eq_true rfl)) dX10_letterCode_1 ⟨Nat.le_of_ble_eq_true rfl, Nat.le_of_ble_eq_true rfl⟩) hS (fun q _ h => hFc q h) hFc (fun r_1 u t_ H1 locs ht hvm hw hB hz1 hk1 hS => ?_)
  obtain ⟨hP1, hK1, hD1⟩ := hB
  rw [ht] at hP1
  have hK1 := va_K.moved hvm.symm hK1
  obtain ⟨hP, hD⟩ := va_join (wr := []) (w1 := []) hP hD [] [] rfl rfl (by decide) (by decide) hk1 hFc hP1 hD1
  have hK := (hK.sub (tys' := []) [] rfl).app hK1
  generalize H1 = H at hP hS ⊢
  have hP : va_P (dC, dI) vwCl [] H := hP
  have hD : va_D A [] := hD
  have hK : va_K (dC, dI) vwCl [(cB, .byte), (cI, .int), (cJ, .long), (cZ, .boolean)] s := hK
  have er_1 : r_1 = dgI x := hw
  rw [er_1]
  refine lv_if_eq (tgt := 17) hx hb dX10_letterCode_4 (by decide) (fun c_2 => ?_) (fun c_2 => ?_)
  · skip
    refine lv_iload_n hx hb dX10_letterCode_17 rfl (lv_at hl 0 rfl) ?_
    refine lv_bipush (v := 97) hx hb dX10_letterCode_18 (by decide) ?_
    refine lv_isub hx hb dX10_letterCode_20 ?_
    refine lv_iconst (v := 1) hx hb dX10_letterCode_21 (by decide) ?_
    refine lv_iadd hx hb dX10_letterCode_22 ?_
    have hP9 := hP.sub (ws' := []) [] rfl
    have hD9 := hD.sub (ws' := []) [] (by decide) rfl
    have hK9 := hK.sub (tys' := [(cB, .byte), (cI, .int), (cJ, .long), (cZ, .boolean)]) [0, 1, 2, 3] rfl
    exact W.iret (v := ((x - 97) + 1)) hx hb hr (fun t_ ht hW => ⟨⟨((x - 97) + 1), (), rfl, by unfold lcd; rw [if_pos c_2], by rw [ht]; exact hP9, va_K.moved hW.alike hK9, hD9⟩, hS.F ht⟩) hS.2.2 dX10_letterCode_23
  · skip
    refine lv_iload_n hx hb dX10_letterCode_7 rfl (lv_at hl 0 rfl) ?_
    refine lv_bipush (v := 48) hx hb dX10_letterCode_8 (by decide) ?_
    refine lv_isub hx hb dX10_letterCode_10 ?_
    refine lv_bipush (v := 27) hx hb dX10_letterCode_11 (by decide) ?_
    refine lv_iadd hx hb dX10_letterCode_13 ?_
    refine lv_goto (tgt := 23) hx hb dX10_letterCode_14 (by decide) ?_
    have hP9 := hP.sub (ws' := []) [] rfl
    have hD9 := hD.sub (ws' := []) [] (by decide) rfl
    have hK9 := hK.sub (tys' := [(cB, .byte), (cI, .int), (cJ, .long), (cZ, .boolean)]) [0, 1, 2, 3] rfl
    exact W.iret (v := ((x - 48) + 27)) hx hb hr (fun t_ ht hW => ⟨⟨((x - 48) + 27), (), rfl, by unfold lcd; rw [if_neg c_2], by rw [ht]; exact hP9, va_K.moved hW.alike hK9, hD9⟩, hS.F ht⟩) hS.2.2 dX10_letterCode_23

