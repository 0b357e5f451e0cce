def layB (x k : Int32) : Int32 := vp_nar .byte ((x >>> (k &&& 31)).toInt8.toInt32)
def lay4 (g : Nat → Int32) (t : Nat) (x : Int32) : Nat → Int32 := upd (upd (upd (upd g t (layB x 24)) (t + 1) (layB x 16)) (t + 1 + 1) (layB x 8)) (t + 1 + 1 + 1) (layB x 0)
def lay20 (g : Nat → Int32) (t : Nat) (x y z v w : Int32) : Nat → Int32 := lay4 (lay4 (lay4 (lay4 (lay4 g t x) (t + 4) y) (t + 8) z) (t + 12) v) (t + 16) w
def feedT (t : Nat) : Nat := if t ≤ 1980 then t + 20 else t
def feedG (g : Nat → Int32) (t : Nat) (x y z v w : Int32) : Nat → Int32 := if t ≤ 1980 then lay20 g t x y z v w else g
def feedR (t : Nat) : Int32 := if t ≤ 1980 then nI (t + 20) else -1
theorem dX11_takeFour_0 : decode cX11_takeFour 0 = .ok (.bipush 24, 2) := by decide +kernel
theorem dX11_takeFour_2 : decode cX11_takeFour 2 = .ok (.istore_n 2, 1) := by decide +kernel
theorem dX11_takeFour_3 : decode cX11_takeFour 3 = .ok (.iload_n 2, 1) := by decide +kernel
theorem dX11_takeFour_4 : decode cX11_takeFour 4 = .ok (.ifCond .lt 44, 3) := by decide +kernel
theorem dX11_takeFour_7 : decode cX11_takeFour 7 = .ok (.aload_n 0, 1) := by decide +kernel
theorem dX11_takeFour_8 : decode cX11_takeFour 8 = .ok (.getfield 59, 3) := by decide +kernel
theorem dX11_takeFour_11 : decode cX11_takeFour 11 = .ok (.aload_n 0, 1) := by decide +kernel
theorem dX11_takeFour_12 : decode cX11_takeFour 12 = .ok (.getfield 9, 3) := by decide +kernel
theorem dX11_takeFour_15 : decode cX11_takeFour 15 = .ok (.arraylength, 1) := by decide +kernel
theorem dX11_takeFour_16 : decode cX11_takeFour 16 = .ok (.if_icmp .ge 26, 3) := by decide +kernel
theorem dX11_takeFour_19 : decode cX11_takeFour 19 = .ok (.aload_n 0, 1) := by decide +kernel
theorem dX11_takeFour_20 : decode cX11_takeFour 20 = .ok (.getfield 9, 3) := by decide +kernel
theorem dX11_takeFour_23 : decode cX11_takeFour 23 = .ok (.aload_n 0, 1) := by decide +kernel
theorem dX11_takeFour_24 : decode cX11_takeFour 24 = .ok (.getfield 59, 3) := by decide +kernel
theorem dX11_takeFour_27 : decode cX11_takeFour 27 = .ok (.iload_n 1, 1) := by decide +kernel
theorem dX11_takeFour_28 : decode cX11_takeFour 28 = .ok (.iload_n 2, 1) := by decide +kernel
theorem dX11_takeFour_29 : decode cX11_takeFour 29 = .ok (.ishr, 1) := by decide +kernel
theorem dX11_takeFour_30 : decode cX11_takeFour 30 = .ok (.i2b, 1) := by decide +kernel
theorem dX11_takeFour_31 : decode cX11_takeFour 31 = .ok (.bastore, 1) := by decide +kernel
theorem dX11_takeFour_32 : decode cX11_takeFour 32 = .ok (.aload_n 0, 1) := by decide +kernel
theorem dX11_takeFour_33 : decode cX11_takeFour 33 = .ok (.dup, 1) := by decide +kernel
theorem dX11_takeFour_34 : decode cX11_takeFour 34 = .ok (.getfield 59, 3) := by decide +kernel
theorem dX11_takeFour_37 : decode cX11_takeFour 37 = .ok (.iconst 1, 1) := by decide +kernel
theorem dX11_takeFour_38 : decode cX11_takeFour 38 = .ok (.iadd, 1) := by decide +kernel
theorem dX11_takeFour_39 : decode cX11_takeFour 39 = .ok (.putfield 59, 3) := by decide +kernel
theorem dX11_takeFour_42 : decode cX11_takeFour 42 = .ok (.iinc 2 (-8), 3) := by decide +kernel
theorem dX11_takeFour_45 : decode cX11_takeFour 45 = .ok (.goto (-42), 3) := by decide +kernel
theorem dX11_takeFour_48 : decode cX11_takeFour 48 = .ok (.return_, 1) := by decide +kernel
abbrev cs_t_X11_takeFour (cB cI cJ cZ : ClassId) (h0 hT : Nat) (g : Nat → Int32) (t : Nat) (v2 v3 v5 v6 v7 v8 v9 v10 v12 v13 v15 : Value) (lf ar ct : Int32) (x : Int32) : va_W := [(h0, .inr (12, [.ref hT, .int (nI t), v2, v3, .int lf, v5, v6, v7, v8, v9, v10, .int ar, v12, v13, .int ct, v15])), (hT, .inl (cB, 2000, .inl g))]
abbrev pc_t_X11_takeFour (dC : Nat → ClassId) (dI : Nat → Nat → Nat) (sz : Nat) (cB cI cJ cZ : ClassId) (h0 hT : Nat) (g : Nat → Int32) (t : Nat) (v2 v3 v5 v6 v7 v8 v9 v10 v12 v13 v15 : Value) (lf ar ct : Int32) (x : Int32) : Array Value → State → Prop := va_Pc [.ref h0, .int x] (fun U => U.heap.size = sz ∧ va_P (dC, dI) vwCl [(h0, .inr (12, [.ref hT, .int (nI t), v2, v3, .int lf, v5, v6, v7, v8, v9, v10, .int ar, v12, v13, .int ct, v15])), (hT, .inl (cB, 2000, .inl g))] U.heap ∧ va_K (dC, dI) vwCl [(cB, .byte), (cI, .int), (cJ, .long), (cZ, .boolean)] U ∧ va_D (fun _ => True) [(h0, .inr (12, [.ref hT, .int (nI t), v2, v3, .int lf, v5, v6, v7, v8, v9, v10, .int ar, v12, v13, .int ct, v15])), (hT, .inl (cB, 2000, .inl g))])
abbrev qc_t_X11_takeFour (dC : Nat → ClassId) (dI : Nat → Nat → Nat) (cB cI cJ cZ : ClassId) (h0 hT : Nat) (g : Nat → Int32) (t : Nat) (v2 v3 v5 v6 v7 v8 v9 v10 v12 v13 v15 : Value) (lf ar ct : Int32) (x : Int32) (A : Nat → Prop) : Array Value → State → Outcome → State → Prop := va_Qv (fun (u : Unit) => match u with | _ => True) (fun (u : Unit) t_ => match u with | _ => va_P (dC, dI) vwCl [(h0, .inr (12, [.ref hT, .int (nI (t + 4)), v2, v3, .int lf, v5, v6, v7, v8, v9, v10, .int ar, v12, v13, .int ct, v15])), (hT, .inl (cB, 2000, .inl (lay4 g t x)))] t_.heap ∧ va_K (dC, dI) vwCl [(cB, .byte), (cI, .int), (cJ, .long), (cZ, .boolean)] t_ ∧ va_D A [(h0, .inr (12, [.ref hT, .int (nI (t + 4)), v2, v3, .int lf, v5, v6, v7, v8, v9, v10, .int ar, v12, v13, .int ct, v15])), (hT, .inl (cB, 2000, .inl (lay4 g t x)))]) A
set_option maxHeartbeats 4000000 in
set_option maxRecDepth 100000 in
theorem t_X11_takeFour (l : Launch) (dC : Nat → ClassId) (dI : Nat → Nat → Nat) (sz : Nat) (cB cI cJ cZ : ClassId) (h0 hT : Nat) (g : Nat → Int32) (t : Nat) (v2 v3 v5 v6 v7 v8 v9 v10 v12 v13 v15 : Value) (lf ar ct : Int32) (x : Int32) (ht4 : t + 4 ≤ 2000) : Met l yX11_takeFour (wsOf yX11_takeFour cX11_takeFour 3 none) ({ frames := 0, cells := 0, slots := 0, locals := 0 }) (pc_t_X11_takeFour dC dI sz cB cI cJ cZ h0 hT g t v2 v3 v5 v6 v7 v8 v9 v10 v12 v13 v15 lf ar ct x) (qc_t_X11_takeFour dC dI cB cI cJ cZ h0 hT g t v2 v3 v5 v6 v7 v8 v9 v10 v12 v13 v15 lf ar ct x (va_A (cs_t_X11_takeFour cB cI cJ cZ h0 hT g t v2 v3 v5 v6 v7 v8 v9 v10 v12 v13 v15 lf ar ct x) sz)) 0 0 (va_A (cs_t_X11_takeFour cB cI cJ cZ h0 hT g t v2 v3 v5 v6 v7 v8 v9 v10 v12 v13 v15 lf ar ct x) sz) := by
  refine Met.ofW (cc := cX11_takeFour) (maxL := 3) (ret := none) (by decide) rfl ?_
  intro p e s m args below meth c s₁ B hml hv
  obtain ⟨rfl, hsz, hP, hK, hD0⟩ := hv
  have hx := B.exec
  have hb := B.bytes
  have hr := B.returns
  have hts := atoms_spec (ws := (wsOf yX11_takeFour cX11_takeFour 3 none)) B.pre
  have hown : s.vm.findClass RX11 = some m.cls := findClass_of_methodNamed B.named
  have hlocks := B.notSynchronized
  subst hsz
  have hD := hD0.self (sz := s.heap.size)
  generalize hAe : va_A (cs_t_X11_takeFour cB cI cJ cZ h0 hT g t v2 v3 v5 v6 v7 v8 v9 v10 v12 v13 v15 lf ar ct x) s.heap.size = A at hD ⊢
  have hA : ∀ q : Nat, s.heap.size ≤ q → A q := fun q h => by rw [← hAe]; exact Or.inr h
  have hS : va_S A s.heap s.heap [] := va_S.rf
  have hP : va_P (dC, dI) vwCl [(h0, .inr (12, [.ref hT, .int (nI t), v2, v3, .int lf, v5, v6, v7, v8, v9, v10, .int ar, v12, v13, .int ct, v15])), (hT, .inl (cB, 2000, .inl g))] s.heap := hP
  have hl := lv_entry ([.ref h0, .int x]) (n := 3) (Nat.le_of_ble_eq_true rfl)
  rw [lg_entry_eq]
  generalize (lg_sl ([.ref h0, .int x]) ++ List.replicate (3 - (lg_sl ([.ref h0, .int x])).length) Slot.unset).toArray = ls at hl ⊢
  have hl : lv_has ls 3 [(0, .ref h0), (1, .int x)] := hl
  refine lv_bipush (v := 24) hx hb dX11_takeFour_0 (by decide) ?_
  refine lv_istore_n (lv' := [(2, .int 24), (0, .ref h0), (1, .int x)]) hx hb dX11_takeFour_2 rfl hl (by decide) rfl (fun ls hl => ?_)
  refine lv_iload_n hx hb dX11_takeFour_3 rfl (lv_at hl 0 rfl) ?_
  refine lv_if_lt (tgt := 48) hx hb dX11_takeFour_4 (by decide) (fun c_1 => ?_) (fun c_1 => ?_)
  · skip
    exact absurd c_1 (by decide)
  · skip
    refine lv_aload_n hx hb dX11_takeFour_7 rfl (lv_at hl 1 rfl) ?_
    refine va_get (D := (dC, dI)) (ci := 12) (v := .int (nI t)) (C := RX11) (T := TX11) (N := 16) hx hb hts (fun w h => List.mem_cons_of_mem _ (uG_X11 w h)) hown hK hP 0 rfl rfl 1 (by decide) (hts _ (List.mem_cons_of_mem _ kw_429)) (fun _ h9 => h9) rfl dX11_takeFour_8 ?_
    refine lv_aload_n hx hb dX11_takeFour_11 rfl (lv_at hl 1 rfl) ?_
    refine va_get (D := (dC, dI)) (ci := 12) (v := .ref hT) (C := RX11) (T := TX11) (N := 16) hx hb hts (fun w h => List.mem_cons_of_mem _ (uG_X11 w h)) hown hK hP 0 rfl rfl 0 (by decide) (hts _ (List.mem_cons_of_mem _ kw_428)) (fun _ h9 => h9) rfl dX11_takeFour_12 ?_
    refine va_alen (v := 2000) hx hb hK hP 1 0 rfl rfl rfl dX11_takeFour_15 ?_
    refine lv_icmp_ge (tgt := 42) hx hb dX11_takeFour_16 (by decide) (fun c_2 => ?_) (fun c_2 => ?_)
    · skip
      have c_2 : 2000 ≤ t := (nI_leI (a := 2000) (b := t) (by omega) (by omega)).mp c_2
      exact absurd c_2 (by omega)
    · skip
      have c_2 : ¬ (2000 ≤ t) := fun h => c_2 ((nI_leI (a := 2000) (b := t) (by omega) (by omega)).mpr h)
      refine lv_aload_n hx hb dX11_takeFour_19 rfl (lv_at hl 1 rfl) ?_
      refine va_get (D := (dC, dI)) (ci := 12) (v := .ref hT) (C := RX11) (T := TX11) (N := 16) hx hb hts (fun w h => List.mem_cons_of_mem _ (uG_X11 w h)) hown hK hP 0 rfl rfl 0 (by decide) (hts _ (List.mem_cons_of_mem _ kw_428)) (fun _ h9 => h9) rfl dX11_takeFour_20 ?_
      refine lv_aload_n hx hb dX11_takeFour_23 rfl (lv_at hl 1 rfl) ?_
      refine va_get (D := (dC, dI)) (ci := 12) (v := .int (nI t)) (C := RX11) (T := TX11) (N := 16) hx hb hts (fun w h => List.mem_cons_of_mem _ (uG_X11 w h)) hown hK hP 0 rfl rfl 1 (by decide) (hts _ (List.mem_cons_of_mem _ kw_429)) (fun _ h9 => h9) rfl dX11_takeFour_24 ?_
      refine lv_iload_n hx hb dX11_takeFour_27 rfl (lv_at hl 2 rfl) ?_
      refine lv_iload_n hx hb dX11_takeFour_28 rfl (lv_at hl 0 rfl) ?_
      refine lv_ishr hx hb dX11_takeFour_29 ?_
      refine lv_i2b hx hb dX11_takeFour_30 rfl ?_
      refine va_bast hx hb hK hP hD hS 1 0 rfl rfl (i := (nI t)) (x := ((x >>> (24 &&& 31)).toInt8.toInt32)) (vp_in_nI (n := t) (N := 2000) (by omega) (by omega)) dX11_takeFour_31 (fun H locs hP hD hS => ?_)
      rw [show (nI t).toNatClampNeg = t from nI_clamp (n := t) (by omega)] at hP hD
      have hP : va_P (dC, dI) vwCl [(h0, .inr (12, [.ref hT, .int (nI t), v2, v3, .int lf, v5, v6, v7, v8, v9, v10, .int ar, v12, v13, .int ct, v15])), (hT, .inl (cB, 2000, .inl (upd g t (vp_nar .byte ((x >>> (24 &&& 31)).toInt8.toInt32)))))] H := hP
      have hD : va_D A [(h0, .inr (12, [.ref hT, .int (nI t), v2, v3, .int lf, v5, v6, v7, v8, v9, v10, .int ar, v12, v13, .int ct, v15])), (hT, .inl (cB, 2000, .inl (upd g t (vp_nar .byte ((x >>> (24 &&& 31)).toInt8.toInt32)))))] := hD
      refine lv_aload_n hx hb dX11_takeFour_32 rfl (lv_at hl 1 rfl) ?_
      refine lv_dup hx hb dX11_takeFour_33 rfl ?_
      refine va_get (D := (dC, dI)) (ci := 12) (v := .int (nI t)) (C := RX11) (T := TX11) (N := 16) hx hb hts (fun w h => List.mem_cons_of_mem _ (uG_X11 w h)) hown hK hP 0 rfl rfl 1 (by decide) (hts _ (List.mem_cons_of_mem _ kw_429)) (fun _ h9 => h9) rfl dX11_takeFour_34 ?_
      refine lv_iconst (v := 1) hx hb dX11_takeFour_37 (by decide) ?_
      refine lv_iadd hx hb dX11_takeFour_38 ?_
      refine lv_topi (fun x_3 ex_3 => ?_)
      have ex_3 : x_3 = nI (t + 1) := ex_3.trans (nI_add t 1)
      subst ex_3
      refine va_put (D := (dC, dI)) (ci := 12) (v := .int (nI (t + 1))) (ty := .int) (C := RX11) (T := TX11) (N := 16) hx hb hts (fun w h => List.mem_cons_of_mem _ (uG_X11 w h)) tyX11 tyX11_ok nmX11 hown hK hP hD hS 0 rfl rfl 1 (by decide) (hts _ (List.mem_cons_of_mem _ kw_429)) (fun _ h9 => h9) rfl (by decide +kernel) rfl rfl (Nat.le_of_ble_eq_true rfl) dX11_takeFour_39 (fun H locs hP hD hS => ?_)
      have hP : va_P (dC, dI) vwCl [(h0, .inr (12, [.ref hT, .int (nI (t + 1)), v2, v3, .int lf, v5, v6, v7, v8, v9, v10, .int ar, v12, v13, .int ct, v15])), (hT, .inl (cB, 2000, .inl (upd g t (vp_nar .byte ((x >>> (24 &&& 31)).toInt8.toInt32)))))] H := hP
      have hD : va_D A [(h0, .inr (12, [.ref hT, .int (nI (t + 1)), v2, v3, .int lf, v5, v6, v7, v8, v9, v10, .int ar, v12, v13, .int ct, v15])), (hT, .inl (cB, 2000, .inl (upd g t (vp_nar .byte ((x >>> (24 &&& 31)).toInt8.toInt32)))))] := hD
      refine lv_iinc (v := 16) (lv' := [(2, .int 16), (0, .ref h0), (1, .int x)]) hx hb dX11_takeFour_42 hl (k := 0) rfl (by decide) (by decide) rfl (fun ls hl => ?_)
      refine lv_goto (tgt := 3) hx hb dX11_takeFour_45 (by decide) ?_
      refine lv_iload_n hx hb dX11_takeFour_3 rfl (lv_at hl 0 rfl) ?_
      refine lv_if_lt (tgt := 48) hx hb dX11_takeFour_4 (by decide) (fun c_4 => ?_) (fun c_4 => ?_)
      · skip
        exact absurd c_4 (by decide)
      · skip
        refine lv_aload_n hx hb dX11_takeFour_7 rfl (lv_at hl 1 rfl) ?_
        refine va_get (D := (dC, dI)) (ci := 12) (v := .int (nI (t + 1))) (C := RX11) (T := TX11) (N := 16) hx hb hts (fun w h => List.mem_cons_of_mem _ (uG_X11 w h)) hown hK hP 0 rfl rfl 1 (by decide) (hts _ (List.mem_cons_of_mem _ kw_429)) (fun _ h9 => h9) rfl dX11_takeFour_8 ?_
        refine lv_aload_n hx hb dX11_takeFour_11 rfl (lv_at hl 1 rfl) ?_
        refine va_get (D := (dC, dI)) (ci := 12) (v := .ref hT) (C := RX11) (T := TX11) (N := 16) hx hb hts (fun w h => List.mem_cons_of_mem _ (uG_X11 w h)) hown hK hP 0 rfl rfl 0 (by decide) (hts _ (List.mem_cons_of_mem _ kw_428)) (fun _ h9 => h9) rfl dX11_takeFour_12 ?_
        refine va_alen (v := 2000) hx hb hK hP 1 0 rfl rfl rfl dX11_takeFour_15 ?_
        refine lv_icmp_ge (tgt := 42) hx hb dX11_takeFour_16 (by decide) (fun c_5 => ?_) (fun c_5 => ?_)
        · skip
          have c_5 : 2000 ≤ t + 1 := (nI_leI (a := 2000) (b := t + 1) (by omega) (by omega)).mp c_5
          exact absurd c_5 (by omega)
        · skip
          have c_5 : ¬ (2000 ≤ t + 1) := fun h => c_5 ((nI_leI (a := 2000) (b := t + 1) (by omega) (by omega)).mpr h)
          refine lv_aload_n hx hb dX11_takeFour_19 rfl (lv_at hl 1 rfl) ?_
          refine va_get (D := (dC, dI)) (ci := 12) (v := .ref hT) (C := RX11) (T := TX11) (N := 16) hx hb hts (fun w h => List.mem_cons_of_mem _ (uG_X11 w h)) hown hK hP 0 rfl rfl 0 (by decide) (hts _ (List.mem_cons_of_mem _ kw_428)) (fun _ h9 => h9) rfl dX11_takeFour_20 ?_
          refine lv_aload_n hx hb dX11_takeFour_23 rfl (lv_at hl 1 rfl) ?_
          refine va_get (D := (dC, dI)) (ci := 12) (v := .int (nI (t + 1))) (C := RX11) (T := TX11) (N := 16) hx hb hts (fun w h => List.mem_cons_of_mem _ (uG_X11 w h)) hown hK hP 0 rfl rfl 1 (by decide) (hts _ (List.mem_cons_of_mem _ kw_429)) (fun _ h9 => h9) rfl dX11_takeFour_24 ?_
          refine lv_iload_n hx hb dX11_takeFour_27 rfl (lv_at hl 2 rfl) ?_
          refine lv_iload_n hx hb dX11_takeFour_28 rfl (lv_at hl 0 rfl) ?_
          refine lv_ishr hx hb dX11_takeFour_29 ?_
          refine lv_i2b hx hb dX11_takeFour_30 rfl ?_
          refine va_bast hx hb hK hP hD hS 1 0 rfl rfl (i := (nI (t + 1))) (x := ((x >>> (16 &&& 31)).toInt8.toInt32)) (vp_in_nI (n := t + 1) (N := 2000) (by omega) (by omega)) dX11_takeFour_31 (fun H locs hP hD hS => ?_)
          rw [show (nI (t + 1)).toNatClampNeg = t + 1 from nI_clamp (n := t + 1) (by omega)] at hP hD
          have hP : va_P (dC, dI) vwCl [(h0, .inr (12, [.ref hT, .int (nI (t + 1)), v2, v3, .int lf, v5, v6, v7, v8, v9, v10, .int ar, v12, v13, .int ct, v15])), (hT, .inl (cB, 2000, .inl (upd (upd g t (vp_nar .byte ((x >>> (24 &&& 31)).toInt8.toInt32))) (t + 1) (vp_nar .byte ((x >>> (16 &&& 31)).toInt8.toInt32)))))] H := hP
          have hD : va_D A [(h0, .inr (12, [.ref hT, .int (nI (t + 1)), v2, v3, .int lf, v5, v6, v7, v8, v9, v10, .int ar, v12, v13, .int ct, v15])), (hT, .inl (cB, 2000, .inl (upd (upd g t (vp_nar .byte ((x >>> (24 &&& 31)).toInt8.toInt32))) (t + 1) (vp_nar .byte ((x >>> (16 &&& 31)).toInt8.toInt32)))))] := hD
          refine lv_aload_n hx hb dX11_takeFour_32 rfl (lv_at hl 1 rfl) ?_
          refine lv_dup hx hb dX11_takeFour_33 rfl ?_
          refine va_get (D := (dC, dI)) (ci := 12) (v := .int (nI (t + 1))) (C := RX11) (T := TX11) (N := 16) hx hb hts (fun w h => List.mem_cons_of_mem _ (uG_X11 w h)) hown hK hP 0 rfl rfl 1 (by decide) (hts _ (List.mem_cons_of_mem _ kw_429)) (fun _ h9 => h9) rfl dX11_takeFour_34 ?_
          refine lv_iconst (v := 1) hx hb dX11_takeFour_37 (by decide) ?_
          refine lv_iadd hx hb dX11_takeFour_38 ?_
          refine lv_topi (fun x_6 ex_6 => ?_)
          have ex_6 : x_6 = nI (t + 1 + 1) := ex_6.trans (nI_add (t + 1) 1)
          subst ex_6
          refine va_put (D := (dC, dI)) (ci := 12) (v := .int (nI (t + 1 + 1))) (ty := .int) (C := RX11) (T := TX11) (N := 16) hx hb hts (fun w h => List.mem_cons_of_mem _ (uG_X11 w h)) tyX11 tyX11_ok nmX11 hown hK hP hD hS 0 rfl rfl 1 (by decide) (hts _ (List.mem_cons_of_mem _ kw_429)) (fun _ h9 => h9) rfl (by decide +kernel) rfl rfl (Nat.le_of_ble_eq_true rfl) dX11_takeFour_39 (fun H locs hP hD hS => ?_)
          have hP : va_P (dC, dI) vwCl [(h0, .inr (12, [.ref hT, .int (nI (t + 1 + 1)), v2, v3, .int lf, v5, v6, v7, v8, v9, v10, .int ar, v12, v13, .int ct, v15])), (hT, .inl (cB, 2000, .inl (upd (upd g t (vp_nar .byte ((x >>> (24 &&& 31)).toInt8.toInt32))) (t + 1) (vp_nar .byte ((x >>> (16 &&& 31)).toInt8.toInt32)))))] H := hP
          have hD : va_D A [(h0, .inr (12, [.ref hT, .int (nI (t + 1 + 1)), v2, v3, .int lf, v5, v6, v7, v8, v9, v10, .int ar, v12, v13, .int ct, v15])), (hT, .inl (cB, 2000, .inl (upd (upd g t (vp_nar .byte ((x >>> (24 &&& 31)).toInt8.toInt32))) (t + 1) (vp_nar .byte ((x >>> (16 &&& 31)).toInt8.toInt32)))))] := hD
          refine lv_iinc (v := 8) (lv' := [(2, .int 8), (0, .ref h0), (1, .int x)]) hx hb dX11_takeFour_42 hl (k := 0) rfl (by decide) (by decide) rfl (fun ls hl => ?_)
          refine lv_goto (tgt := 3) hx hb dX11_takeFour_45 (by decide) ?_
          refine lv_iload_n hx hb dX11_takeFour_3 rfl (lv_at hl 0 rfl) ?_
          refine lv_if_lt (tgt := 48) hx hb dX11_takeFour_4 (by decide) (fun c_7 => ?_) (fun c_7 => ?_)
          · skip
            exact absurd c_7 (by decide)
          · skip
            refine lv_aload_n hx hb dX11_takeFour_7 rfl (lv_at hl 1 rfl) ?_
            refine va_get (D := (dC, dI)) (ci := 12) (v := .int (nI (t + 1 + 1))) (C := RX11) (T := TX11) (N := 16) hx hb hts (fun w h => List.mem_cons_of_mem _ (uG_X11 w h)) hown hK hP 0 rfl rfl 1 (by decide) (hts _ (List.mem_cons_of_mem _ kw_429)) (fun _ h9 => h9) rfl dX11_takeFour_8 ?_
            refine lv_aload_n hx hb dX11_takeFour_11 rfl (lv_at hl 1 rfl) ?_
            refine va_get (D := (dC, dI)) (ci := 12) (v := .ref hT) (C := RX11) (T := TX11) (N := 16) hx hb hts (fun w h => List.mem_cons_of_mem _ (uG_X11 w h)) hown hK hP 0 rfl rfl 0 (by decide) (hts _ (List.mem_cons_of_mem _ kw_428)) (fun _ h9 => h9) rfl dX11_takeFour_12 ?_
            refine va_alen (v := 2000) hx hb hK hP 1 0 rfl rfl rfl dX11_takeFour_15 ?_
            refine lv_icmp_ge (tgt := 42) hx hb dX11_takeFour_16 (by decide) (fun c_8 => ?_) (fun c_8 => ?_)
            · skip
              have c_8 : 2000 ≤ t + 1 + 1 := (nI_leI (a := 2000) (b := t + 1 + 1) (by omega) (by omega)).mp c_8
              exact absurd c_8 (by omega)
            · skip
              have c_8 : ¬ (2000 ≤ t + 1 + 1) := fun h => c_8 ((nI_leI (a := 2000) (b := t + 1 + 1) (by omega) (by omega)).mpr h)
              refine lv_aload_n hx hb dX11_takeFour_19 rfl (lv_at hl 1 rfl) ?_
              refine va_get (D := (dC, dI)) (ci := 12) (v := .ref hT) (C := RX11) (T := TX11) (N := 16) hx hb hts (fun w h => List.mem_cons_of_mem _ (uG_X11 w h)) hown hK hP 0 rfl rfl 0 (by decide) (hts _ (List.mem_cons_of_mem _ kw_428)) (fun _ h9 => h9) rfl dX11_takeFour_20 ?_
              refine lv_aload_n hx hb dX11_takeFour_23 rfl (lv_at hl 1 rfl) ?_
              refine va_get (D := (dC, dI)) (ci := 12) (v := .int (nI (t + 1 + 1))) (C := RX11) (T := TX11) (N := 16) hx hb hts (fun w h => List.mem_cons_of_mem _ (uG_X11 w h)) hown hK hP 0 rfl rfl 1 (by decide) (hts _ (List.mem_cons_of_mem _ kw_429)) (fun _ h9 => h9) rfl dX11_takeFour_24 ?_
              refine lv_iload_n hx hb dX11_takeFour_27 rfl (lv_at hl 2 rfl) ?_
              refine lv_iload_n hx hb dX11_takeFour_28 rfl (lv_at hl 0 rfl) ?_
              refine lv_ishr hx hb dX11_takeFour_29 ?_
              refine lv_i2b hx hb dX11_takeFour_30 rfl ?_
              refine va_bast hx hb hK hP hD hS 1 0 rfl rfl (i := (nI (t + 1 + 1))) (x := ((x >>> (8 &&& 31)).toInt8.toInt32)) (vp_in_nI (n := t + 1 + 1) (N := 2000) (by omega) (by omega)) dX11_takeFour_31 (fun H locs hP hD hS => ?_)
              rw [show (nI (t + 1 + 1)).toNatClampNeg = t + 1 + 1 from nI_clamp (n := t + 1 + 1) (by omega)] at hP hD
              have hP : va_P (dC, dI) vwCl [(h0, .inr (12, [.ref hT, .int (nI (t + 1 + 1)), v2, v3, .int lf, v5, v6, v7, v8, v9, v10, .int ar, v12, v13, .int ct, v15])), (hT, .inl (cB, 2000, .inl (upd (upd (upd g t (vp_nar .byte ((x >>> (24 &&& 31)).toInt8.toInt32))) (t + 1) (vp_nar .byte ((x >>> (16 &&& 31)).toInt8.toInt32))) (t + 1 + 1) (vp_nar .byte ((x >>> (8 &&& 31)).toInt8.toInt32)))))] H := hP
              have hD : va_D A [(h0, .inr (12, [.ref hT, .int (nI (t + 1 + 1)), v2, v3, .int lf, v5, v6, v7, v8, v9, v10, .int ar, v12, v13, .int ct, v15])), (hT, .inl (cB, 2000, .inl (upd (upd (upd g t (vp_nar .byte ((x >>> (24 &&& 31)).toInt8.toInt32))) (t + 1) (vp_nar .byte ((x >>> (16 &&& 31)).toInt8.toInt32))) (t + 1 + 1) (vp_nar .byte ((x >>> (8 &&& 31)).toInt8.toInt32)))))] := hD
              refine lv_aload_n hx hb dX11_takeFour_32 rfl (lv_at hl 1 rfl) ?_
              refine lv_dup hx hb dX11_takeFour_33 rfl ?_
              refine va_get (D := (dC, dI)) (ci := 12) (v := .int (nI (t + 1 + 1))) (C := RX11) (T := TX11) (N := 16) hx hb hts (fun w h => List.mem_cons_of_mem _ (uG_X11 w h)) hown hK hP 0 rfl rfl 1 (by decide) (hts _ (List.mem_cons_of_mem _ kw_429)) (fun _ h9 => h9) rfl dX11_takeFour_34 ?_
              refine lv_iconst (v := 1) hx hb dX11_takeFour_37 (by decide) ?_
              refine lv_iadd hx hb dX11_takeFour_38 ?_
              refine lv_topi (fun x_9 ex_9 => ?_)
              have ex_9 : x_9 = nI (t + 1 + 1 + 1) := ex_9.trans (nI_add (t + 1 + 1) 1)
              subst ex_9
              refine va_put (D := (dC, dI)) (ci := 12) (v := .int (nI (t + 1 + 1 + 1))) (ty := .int) (C := RX11) (T := TX11) (N := 16) hx hb hts (fun w h => List.mem_cons_of_mem _ (uG_X11 w h)) tyX11 tyX11_ok nmX11 hown hK hP hD hS 0 rfl rfl 1 (by decide) (hts _ (List.mem_cons_of_mem _ kw_429)) (fun _ h9 => h9) rfl (by decide +kernel) rfl rfl (Nat.le_of_ble_eq_true rfl) dX11_takeFour_39 (fun H locs hP hD hS => ?_)
              have hP : va_P (dC, dI) vwCl [(h0, .inr (12, [.ref hT, .int (nI (t + 1 + 1 + 1)), v2, v3, .int lf, v5, v6, v7, v8, v9, v10, .int ar, v12, v13, .int ct, v15])), (hT, .inl (cB, 2000, .inl (upd (upd (upd g t (vp_nar .byte ((x >>> (24 &&& 31)).toInt8.toInt32))) (t + 1) (vp_nar .byte ((x >>> (16 &&& 31)).toInt8.toInt32))) (t + 1 + 1) (vp_nar .byte ((x >>> (8 &&& 31)).toInt8.toInt32)))))] H := hP
              have hD : va_D A [(h0, .inr (12, [.ref hT, .int (nI (t + 1 + 1 + 1)), v2, v3, .int lf, v5, v6, v7, v8, v9, v10, .int ar, v12, v13, .int ct, v15])), (hT, .inl (cB, 2000, .inl (upd (upd (upd g t (vp_nar .byte ((x >>> (24 &&& 31)).toInt8.toInt32))) (t + 1) (vp_nar .byte ((x >>> (16 &&& 31)).toInt8.toInt32))) (t + 1 + 1) (vp_nar .byte ((x >>> (8 &&& 31)).toInt8.toInt32)))))] := hD
              refine lv_iinc (v := 0) (lv' := [(2, .int 0), (0, .ref h0), (1, .int x)]) hx hb dX11_takeFour_42 hl (k := 0) rfl (by decide) (by decide) rfl (fun ls hl => ?_)
              refine lv_goto (tgt := 3) hx hb dX11_takeFour_45 (by decide) ?_
              refine lv_iload_n hx hb dX11_takeFour_3 rfl (lv_at hl 0 rfl) ?_
              refine lv_if_lt (tgt := 48) hx hb dX11_takeFour_4 (by decide) (fun c_10 => ?_) (fun c_10 => ?_)
              · skip
                exact absurd c_10 (by decide)
              · skip
                refine lv_aload_n hx hb dX11_takeFour_7 rfl (lv_at hl 1 rfl) ?_
                refine va_get (D := (dC, dI)) (ci := 12) (v := .int (nI (t + 1 + 1 + 1))) (C := RX11) (T := TX11) (N := 16) hx hb hts (fun w h => List.mem_cons_of_mem _ (uG_X11 w h)) hown hK hP 0 rfl rfl 1 (by decide) (hts _ (List.mem_cons_of_mem _ kw_429)) (fun _ h9 => h9) rfl dX11_takeFour_8 ?_
                refine lv_aload_n hx hb dX11_takeFour_11 rfl (lv_at hl 1 rfl) ?_
                refine va_get (D := (dC, dI)) (ci := 12) (v := .ref hT) (C := RX11) (T := TX11) (N := 16) hx hb hts (fun w h => List.mem_cons_of_mem _ (uG_X11 w h)) hown hK hP 0 rfl rfl 0 (by decide) (hts _ (List.mem_cons_of_mem _ kw_428)) (fun _ h9 => h9) rfl dX11_takeFour_12 ?_
                refine va_alen (v := 2000) hx hb hK hP 1 0 rfl rfl rfl dX11_takeFour_15 ?_
                refine lv_icmp_ge (tgt := 42) hx hb dX11_takeFour_16 (by decide) (fun c_11 => ?_) (fun c_11 => ?_)
                · skip
                  have c_11 : 2000 ≤ t + 1 + 1 + 1 := (nI_leI (a := 2000) (b := t + 1 + 1 + 1) (by omega) (by omega)).mp c_11
                  exact absurd c_11 (by omega)
                · skip
                  have c_11 : ¬ (2000 ≤ t + 1 + 1 + 1) := fun h => c_11 ((nI_leI (a := 2000) (b := t + 1 + 1 + 1) (by omega) (by omega)).mpr h)
                  refine lv_aload_n hx hb dX11_takeFour_19 rfl (lv_at hl 1 rfl) ?_
                  refine va_get (D := (dC, dI)) (ci := 12) (v := .ref hT) (C := RX11) (T := TX11) (N := 16) hx hb hts (fun w h => List.mem_cons_of_mem _ (uG_X11 w h)) hown hK hP 0 rfl rfl 0 (by decide) (hts _ (List.mem_cons_of_mem _ kw_428)) (fun _ h9 => h9) rfl dX11_takeFour_20 ?_
                  refine lv_aload_n hx hb dX11_takeFour_23 rfl (lv_at hl 1 rfl) ?_
                  refine va_get (D := (dC, dI)) (ci := 12) (v := .int (nI (t + 1 + 1 + 1))) (C := RX11) (T := TX11) (N := 16) hx hb hts (fun w h => List.mem_cons_of_mem _ (uG_X11 w h)) hown hK hP 0 rfl rfl 1 (by decide) (hts _ (List.mem_cons_of_mem _ kw_429)) (fun _ h9 => h9) rfl dX11_takeFour_24 ?_
                  refine lv_iload_n hx hb dX11_takeFour_27 rfl (lv_at hl 2 rfl) ?_
                  refine lv_iload_n hx hb dX11_takeFour_28 rfl (lv_at hl 0 rfl) ?_
                  refine lv_ishr hx hb dX11_takeFour_29 ?_
                  refine lv_i2b hx hb dX11_takeFour_30 rfl ?_
                  refine va_bast hx hb hK hP hD hS 1 0 rfl rfl (i := (nI (t + 1 + 1 + 1))) (x := ((x >>> (0 &&& 31)).toInt8.toInt32)) (vp_in_nI (n := t + 1 + 1 + 1) (N := 2000) (by omega) (by omega)) dX11_takeFour_31 (fun H locs hP hD hS => ?_)
                  rw [show (nI (t + 1 + 1 + 1)).toNatClampNeg = t + 1 + 1 + 1 from nI_clamp (n := t + 1 + 1 + 1) (by omega)] at hP hD
                  have hP : va_P (dC, dI) vwCl [(h0, .inr (12, [.ref hT, .int (nI (t + 1 + 1 + 1)), v2, v3, .int lf, v5, v6, v7, v8, v9, v10, .int ar, v12, v13, .int ct, v15])), (hT, .inl (cB, 2000, .inl (upd (upd (upd (upd g t (vp_nar .byte ((x >>> (24 &&& 31)).toInt8.toInt32))) (t + 1) (vp_nar .byte ((x >>> (16 &&& 31)).toInt8.toInt32))) (t + 1 + 1) (vp_nar .byte ((x >>> (8 &&& 31)).toInt8.toInt32))) (t + 1 + 1 + 1) (vp_nar .byte ((x >>> (0 &&& 31)).toInt8.toInt32)))))] H := hP
                  have hD : va_D A [(h0, .inr (12, [.ref hT, .int (nI (t + 1 + 1 + 1)), v2, v3, .int lf, v5, v6, v7, v8, v9, v10, .int ar, v12, v13, .int ct, v15])), (hT, .inl (cB, 2000, .inl (upd (upd (upd (upd g t (vp_nar .byte ((x >>> (24 &&& 31)).toInt8.toInt32))) (t + 1) (vp_nar .byte ((x >>> (16 &&& 31)).toInt8.toInt32))) (t + 1 + 1) (vp_nar .byte ((x >>> (8 &&& 31)).toInt8.toInt32))) (t + 1 + 1 + 1) (vp_nar .byte ((x >>> (0 &&& 31)).toInt8.toInt32)))))] := hD
                  refine lv_aload_n hx hb dX11_takeFour_32 rfl (lv_at hl 1 rfl) ?_
                  refine lv_dup hx hb dX11_takeFour_33 rfl ?_
                  refine va_get (D := (dC, dI)) (ci := 12) (v := .int (nI (t + 1 + 1 + 1))) (C := RX11) (T := TX11) (N := 16) hx hb hts (fun w h => List.mem_cons_of_mem _ (uG_X11 w h)) hown hK hP 0 rfl rfl 1 (by decide) (hts _ (List.mem_cons_of_mem _ kw_429)) (fun _ h9 => h9) rfl dX11_takeFour_34 ?_
                  refine lv_iconst (v := 1) hx hb dX11_takeFour_37 (by decide) ?_
                  refine lv_iadd hx hb dX11_takeFour_38 ?_
                  refine lv_topi (fun x_12 ex_12 => ?_)
                  have ex_12 : x_12 = nI (t + 1 + 1 + 1 + 1) := ex_12.trans (nI_add (t + 1 + 1 + 1) 1)
                  subst ex_12
                  refine va_put (D := (dC, dI)) (ci := 12) (v := .int (nI (t + 1 + 1 + 1 + 1))) (ty := .int) (C := RX11) (T := TX11) (N := 16) hx hb hts (fun w h => List.mem_cons_of_mem _ (uG_X11 w h)) tyX11 tyX11_ok nmX11 hown hK hP hD hS 0 rfl rfl 1 (by decide) (hts _ (List.mem_cons_of_mem _ kw_429)) (fun _ h9 => h9) rfl (by decide +kernel) rfl rfl (Nat.le_of_ble_eq_true rfl) dX11_takeFour_39 (fun H locs hP hD hS => ?_)
                  have hP : va_P (dC, dI) vwCl [(h0, .inr (12, [.ref hT, .int (nI (t + 1 + 1 + 1 + 1)), v2, v3, .int lf, v5, v6, v7, v8, v9, v10, .int ar, v12, v13, .int ct, v15])), (hT, .inl (cB, 2000, .inl (upd (upd (upd (upd g t (vp_nar .byte ((x >>> (24 &&& 31)).toInt8.toInt32))) (t + 1) (vp_nar .byte ((x >>> (16 &&& 31)).toInt8.toInt32))) (t + 1 + 1) (vp_nar .byte ((x >>> (8 &&& 31)).toInt8.toInt32))) (t + 1 + 1 + 1) (vp_nar .byte ((x >>> (0 &&& 31)).toInt8.toInt32)))))] H := hP
                  have hD : va_D A [(h0, .inr (12, [.ref hT, .int (nI (t + 1 + 1 + 1 + 1)), v2, v3, .int lf, v5, v6, v7, v8, v9, v10, .int ar, v12, v13, .int ct, v15])), (hT, .inl (cB, 2000, .inl (upd (upd (upd (upd g t (vp_nar .byte ((x >>> (24 &&& 31)).toInt8.toInt32))) (t + 1) (vp_nar .byte ((x >>> (16 &&& 31)).toInt8.toInt32))) (t + 1 + 1) (vp_nar .byte ((x >>> (8 &&& 31)).toInt8.toInt32))) (t + 1 + 1 + 1) (vp_nar .byte ((x >>> (0 &&& 31)).toInt8.toInt32)))))] := hD
                  refine lv_iinc (v := (-8)) (lv' := [(2, .int (-8)), (0, .ref h0), (1, .int x)]) hx hb dX11_takeFour_42 hl (k := 0) rfl (by decide) (by decide) rfl (fun ls hl => ?_)
                  refine lv_goto (tgt := 3) hx hb dX11_takeFour_45 (by decide) ?_
                  refine lv_iload_n hx hb dX11_takeFour_3 rfl (lv_at hl 0 rfl) ?_
                  refine lv_if_lt (tgt := 48) hx hb dX11_takeFour_4 (by decide) (fun c_13 => ?_) (fun c_13 => ?_)
                  · skip
                    have hP9 := hP.sub (ws' := [(h0, .inr (12, [.ref hT, .int (nI (t + 1 + 1 + 1 + 1)), v2, v3, .int lf, v5, v6, v7, v8, v9, v10, .int ar, v12, v13, .int ct, v15])), (hT, .inl (cB, 2000, .inl (upd (upd (upd (upd g t (vp_nar .byte ((x >>> (24 &&& 31)).toInt8.toInt32))) (t + 1) (vp_nar .byte ((x >>> (16 &&& 31)).toInt8.toInt32))) (t + 1 + 1) (vp_nar .byte ((x >>> (8 &&& 31)).toInt8.toInt32))) (t + 1 + 1 + 1) (vp_nar .byte ((x >>> (0 &&& 31)).toInt8.toInt32)))))]) [0, 1] rfl
                    have hD9 := hD.sub (ws' := [(h0, .inr (12, [.ref hT, .int (nI (t + 1 + 1 + 1 + 1)), v2, v3, .int lf, v5, v6, v7, v8, v9, v10, .int ar, v12, v13, .int ct, v15])), (hT, .inl (cB, 2000, .inl (upd (upd (upd (upd g t (vp_nar .byte ((x >>> (24 &&& 31)).toInt8.toInt32))) (t + 1) (vp_nar .byte ((x >>> (16 &&& 31)).toInt8.toInt32))) (t + 1 + 1) (vp_nar .byte ((x >>> (8 &&& 31)).toInt8.toInt32))) (t + 1 + 1 + 1) (vp_nar .byte ((x >>> (0 &&& 31)).toInt8.toInt32)))))]) [0, 1] (by decide) rfl
                    have hK9 := hK.sub (tys' := [(cB, .byte), (cI, .int), (cJ, .long), (cZ, .boolean)]) [0, 1, 2, 3] rfl
                    exact W.vret hx hb hr (fun t_ ht hW => ⟨⟨(), rfl, trivial, by rw [ht]; exact hP9, va_K.moved hW.alike hK9, hD9⟩, hS.F ht⟩) hS.2.2 dX11_takeFour_48
                  · skip
                    exact absurd c_13 (by decide)
theorem dX12_lay_0 : decode cX12_lay 0 = .ok (.bipush 24, 2) := by decide +kernel
theorem dX12_lay_2 : decode cX12_lay 2 = .ok (.istore_n 2, 1) := by decide +kernel
theorem dX12_lay_3 : decode cX12_lay 3 = .ok (.iload_n 2, 1) := by decide +kernel
theorem dX12_lay_4 : decode cX12_lay 4 = .ok (.ifCond .lt 32, 3) := by decide +kernel
theorem dX12_lay_7 : decode cX12_lay 7 = .ok (.aload_n 0, 1) := by decide +kernel
theorem dX12_lay_8 : decode cX12_lay 8 = .ok (.getfield 7, 3) := by decide +kernel
theorem dX12_lay_11 : decode cX12_lay 11 = .ok (.aload_n 0, 1) := by decide +kernel
theorem dX12_lay_12 : decode cX12_lay 12 = .ok (.getfield 253, 3) := by decide +kernel
theorem dX12_lay_15 : decode cX12_lay 15 = .ok (.iload_n 1, 1) := by decide +kernel
theorem dX12_lay_16 : decode cX12_lay 16 = .ok (.iload_n 2, 1) := by decide +kernel
theorem dX12_lay_17 : decode cX12_lay 17 = .ok (.ishr, 1) := by decide +kernel
theorem dX12_lay_18 : decode cX12_lay 18 = .ok (.i2b, 1) := by decide +kernel
theorem dX12_lay_19 : decode cX12_lay 19 = .ok (.bastore, 1) := by decide +kernel
theorem dX12_lay_20 : decode cX12_lay 20 = .ok (.aload_n 0, 1) := by decide +kernel
theorem dX12_lay_21 : decode cX12_lay 21 = .ok (.dup, 1) := by decide +kernel
theorem dX12_lay_22 : decode cX12_lay 22 = .ok (.getfield 253, 3) := by decide +kernel
theorem dX12_lay_25 : decode cX12_lay 25 = .ok (.iconst 1, 1) := by decide +kernel
theorem dX12_lay_26 : decode cX12_lay 26 = .ok (.iadd, 1) := by decide +kernel
theorem dX12_lay_27 : decode cX12_lay 27 = .ok (.putfield 253, 3) := by decide +kernel
theorem dX12_lay_30 : decode cX12_lay 30 = .ok (.iinc 2 (-8), 3) := by decide +kernel
theorem dX12_lay_33 : decode cX12_lay 33 = .ok (.goto (-30), 3) := by decide +kernel
theorem dX12_lay_36 : decode cX12_lay 36 = .ok (.return_, 1) := by decide +kernel
abbrev cs_t_X12_lay (cB cI cJ cZ : ClassId) (h0 : Nat) (a : Nat → Nat) (g : Nat → Int32) (t : Nat) (f : Nat → Int32) (w : Int64) (x : Int32) : va_W := [(h0, .inr (13, moF a (upd f 1 (nI t)) w)), (a 0, .inl (cB, 2000, .inl g))]
abbrev pc_t_X12_lay (dC : Nat → ClassId) (dI : Nat → Nat → Nat) (sz : Nat) (cB cI cJ cZ : ClassId) (h0 : Nat) (a : Nat → Nat) (g : Nat → Int32) (t : Nat) (f : Nat → Int32) (w : Int64) (x : Int32) : Array Value → State → Prop := va_Pc [.ref h0, .int x] (fun U => U.heap.size = sz ∧ va_P (dC, dI) vwCl [(h0, .inr (13, moF a (upd f 1 (nI t)) w)), (a 0, .inl (cB, 2000, .inl g))] U.heap ∧ va_K (dC, dI) vwCl [(cB, .byte), (cI, .int), (cJ, .long), (cZ, .boolean)] U ∧ va_D (fun _ => True) [(h0, .inr (13, moF a (upd f 1 (nI t)) w)), (a 0, .inl (cB, 2000, .inl g))])
abbrev qc_t_X12_lay (dC : Nat → ClassId) (dI : Nat → Nat → Nat) (cB cI cJ cZ : ClassId) (h0 : Nat) (a : Nat → Nat) (g : Nat → Int32) (t : Nat) (f : Nat → Int32) (w : Int64) (x : Int32) (A : Nat → Prop) : Array Value → State → Outcome → State → Prop := va_Qv (fun (u : Unit) => match u with | _ => True) (fun (u : Unit) t_ => match u with | _ => va_P (dC, dI) vwCl [(h0, .inr (13, moF a (upd f 1 (nI (t + 4))) w)), (a 0, .inl (cB, 2000, .inl (lay4 g t x)))] t_.heap ∧ va_K (dC, dI) vwCl [(cB, .byte), (cI, .int), (cJ, .long), (cZ, .boolean)] t_ ∧ va_D A [(h0, .inr (13, moF a (upd f 1 (nI (t + 4))) w)), (a 0, .inl (cB, 2000, .inl (lay4 g t x)))]) A
set_option maxHeartbeats 4000000 in
set_option maxRecDepth 100000 in
theorem t_X12_lay (l : Launch) (dC : Nat → ClassId) (dI : Nat → Nat → Nat) (sz : Nat) (cB cI cJ cZ : ClassId) (h0 : Nat) (a : Nat → Nat) (g : Nat → Int32) (t : Nat) (f : Nat → Int32) (w : Int64) (x : Int32) (ht4 : t + 4 ≤ 2000) : Met l yX12_lay (wsOf yX12_lay cX12_lay 3 none) ({ frames := 0, cells := 0, slots := 0, locals := 0 }) (pc_t_X12_lay dC dI sz cB cI cJ cZ h0 a g t f w x) (qc_t_X12_lay dC dI cB cI cJ cZ h0 a g t f w x (va_A (cs_t_X12_lay cB cI cJ cZ h0 a g t f w x) sz)) 0 0 (va_A (cs_t_X12_lay cB cI cJ cZ h0 a g t f w x) sz) := by
  refine Met.ofW (cc := cX12_lay) (maxL := 3) (ret := none) (by decide) rfl ?_
  intro p e s m args below meth c s₁ B hml hv
  obtain ⟨rfl, hsz, hP, hK, hD0⟩ := hv
  have hx := B.exec
  have hb := B.bytes
  have hr := B.returns
  have hts := atoms_spec (ws := (wsOf yX12_lay cX12_lay 3 none)) B.pre
  have hown : s.vm.findClass RX12 = some m.cls := findClass_of_methodNamed B.named
  have hlocks := B.notSynchronized
  subst hsz
  have hD := hD0.self (sz := s.heap.size)
  generalize hAe : va_A (cs_t_X12_lay cB cI cJ cZ h0 a g t f w x) s.heap.size = A at hD ⊢
  have hA : ∀ q : Nat, s.heap.size ≤ q → A q := fun q h => by rw [← hAe]; exact Or.inr h
  have hS : va_S A s.heap s.heap [] := va_S.rf
  have hP : va_P (dC, dI) vwCl [(h0, .inr (13, moF a (upd f 1 (nI t)) w)), (a 0, .inl (cB, 2000, .inl g))] s.heap := hP
  have hl := lv_entry ([.ref h0, .int x]) (n := 3) (Nat.le_of_ble_eq_true rfl)
  rw [lg_entry_eq]
  generalize (lg_sl ([.ref h0, .int x]) ++ List.replicate (3 - (lg_sl ([.ref h0, .int x])).length) Slot.unset).toArray = ls at hl ⊢
  have hl : lv_has ls 3 [(0, .ref h0), (1, .int x)] := hl
  refine lv_bipush (v := 24) hx hb dX12_lay_0 (by decide) ?_
  refine lv_istore_n (lv' := [(2, .int 24), (0, .ref h0), (1, .int x)]) hx hb dX12_lay_2 rfl hl (by decide) rfl (fun ls hl => ?_)
  refine lv_iload_n hx hb dX12_lay_3 rfl (lv_at hl 0 rfl) ?_
  refine lv_if_lt (tgt := 36) hx hb dX12_lay_4 (by decide) (fun c_1 => ?_) (fun c_1 => ?_)
  · skip
    exact absurd c_1 (by decide)
  · skip
    refine lv_aload_n hx hb dX12_lay_7 rfl (lv_at hl 1 rfl) ?_
    refine va_get (D := (dC, dI)) (ci := 13) (v := .ref (a 0)) (C := RX12) (T := TX12) (N := 115) hx hb hts (fun w h => List.mem_cons_of_mem _ (uG_X12 w h)) hown hK hP 0 rfl rfl 0 (by decide) (hts _ (List.mem_cons_of_mem _ kw_1691)) (fun _ h9 => h9) rfl dX12_lay_8 ?_
    refine lv_aload_n hx hb dX12_lay_11 rfl (lv_at hl 1 rfl) ?_
    refine va_get (D := (dC, dI)) (ci := 13) (v := .int (nI t)) (C := RX12) (T := TX12) (N := 115) hx hb hts (fun w h => List.mem_cons_of_mem _ (uG_X12 w h)) hown hK hP 0 rfl rfl 1 (by decide) (hts _ (List.mem_cons_of_mem _ kw_1692)) (fun _ h9 => h9) rfl dX12_lay_12 ?_
    refine lv_iload_n hx hb dX12_lay_15 rfl (lv_at hl 2 rfl) ?_
    refine lv_iload_n hx hb dX12_lay_16 rfl (lv_at hl 0 rfl) ?_
    refine lv_ishr hx hb dX12_lay_17 ?_
    refine lv_i2b hx hb dX12_lay_18 rfl ?_
    refine va_bast hx hb hK hP hD hS 1 0 rfl rfl (i := (nI t)) (x := ((x >>> (24 &&& 31)).toInt8.toInt32)) (vp_in_nI (n := t) (N := 2000) (by omega) (by omega)) dX12_lay_19 (fun H locs hP hD hS => ?_)
    rw [show (nI t).toNatClampNeg = t from nI_clamp (n := t) (by omega)] at hP hD
    have hP : va_P (dC, dI) vwCl [(h0, .inr (13, moF a (upd f 1 (nI t)) w)), (a 0, .inl (cB, 2000, .inl (upd g t (vp_nar .byte ((x >>> (24 &&& 31)).toInt8.toInt32)))))] H := hP
    have hD : va_D A [(h0, .inr (13, moF a (upd f 1 (nI t)) w)), (a 0, .inl (cB, 2000, .inl (upd g t (vp_nar .byte ((x >>> (24 &&& 31)).toInt8.toInt32)))))] := hD
    refine lv_aload_n hx hb dX12_lay_20 rfl (lv_at hl 1 rfl) ?_
    refine lv_dup hx hb dX12_lay_21 rfl ?_
    refine va_get (D := (dC, dI)) (ci := 13) (v := .int (nI t)) (C := RX12) (T := TX12) (N := 115) hx hb hts (fun w h => List.mem_cons_of_mem _ (uG_X12 w h)) hown hK hP 0 rfl rfl 1 (by decide) (hts _ (List.mem_cons_of_mem _ kw_1692)) (fun _ h9 => h9) rfl dX12_lay_22 ?_
    refine lv_iconst (v := 1) hx hb dX12_lay_25 (by decide) ?_
    refine lv_iadd hx hb dX12_lay_26 ?_
    refine lv_topi (fun x_2 ex_2 => ?_)
    have ex_2 : x_2 = nI (t + 1) := ex_2.trans (nI_add t 1)
    subst ex_2
    refine va_put (D := (dC, dI)) (ci := 13) (v := .int (nI (t + 1))) (ty := .int) (C := RX12) (T := TX12) (N := 115) hx hb hts (fun w h => List.mem_cons_of_mem _ (uG_X12 w h)) tyX12 tyX12_ok nmX12 hown hK hP hD hS 0 rfl rfl 1 (by decide) (hts _ (List.mem_cons_of_mem _ kw_1692)) (fun _ h9 => h9) rfl (by decide +kernel) rfl rfl (Nat.le_of_ble_eq_true rfl) dX12_lay_27 (fun H locs hP hD hS => ?_)
    have hP : va_P (dC, dI) vwCl [(h0, .inr (13, moF a (upd f 1 (nI (t + 1))) w)), (a 0, .inl (cB, 2000, .inl (upd g t (vp_nar .byte ((x >>> (24 &&& 31)).toInt8.toInt32)))))] H := hP
    have hD : va_D A [(h0, .inr (13, moF a (upd f 1 (nI (t + 1))) w)), (a 0, .inl (cB, 2000, .inl (upd g t (vp_nar .byte ((x >>> (24 &&& 31)).toInt8.toInt32)))))] := hD
    refine lv_iinc (v := 16) (lv' := [(2, .int 16), (0, .ref h0), (1, .int x)]) hx hb dX12_lay_30 hl (k := 0) rfl (by decide) (by decide) rfl (fun ls hl => ?_)
    refine lv_goto (tgt := 3) hx hb dX12_lay_33 (by decide) ?_
    refine lv_iload_n hx hb dX12_lay_3 rfl (lv_at hl 0 rfl) ?_
    refine lv_if_lt (tgt := 36) hx hb dX12_lay_4 (by decide) (fun c_3 => ?_) (fun c_3 => ?_)
    · skip
      exact absurd c_3 (by decide)
    · skip
      refine lv_aload_n hx hb dX12_lay_7 rfl (lv_at hl 1 rfl) ?_
      refine va_get (D := (dC, dI)) (ci := 13) (v := .ref (a 0)) (C := RX12) (T := TX12) (N := 115) hx hb hts (fun w h => List.mem_cons_of_mem _ (uG_X12 w h)) hown hK hP 0 rfl rfl 0 (by decide) (hts _ (List.mem_cons_of_mem _ kw_1691)) (fun _ h9 => h9) rfl dX12_lay_8 ?_
      refine lv_aload_n hx hb dX12_lay_11 rfl (lv_at hl 1 rfl) ?_
      refine va_get (D := (dC, dI)) (ci := 13) (v := .int (nI (t + 1))) (C := RX12) (T := TX12) (N := 115) hx hb hts (fun w h => List.mem_cons_of_mem _ (uG_X12 w h)) hown hK hP 0 rfl rfl 1 (by decide) (hts _ (List.mem_cons_of_mem _ kw_1692)) (fun _ h9 => h9) rfl dX12_lay_12 ?_
      refine lv_iload_n hx hb dX12_lay_15 rfl (lv_at hl 2 rfl) ?_
      refine lv_iload_n hx hb dX12_lay_16 rfl (lv_at hl 0 rfl) ?_
      refine lv_ishr hx hb dX12_lay_17 ?_
      refine lv_i2b hx hb dX12_lay_18 rfl ?_
      refine va_bast hx hb hK hP hD hS 1 0 rfl rfl (i := (nI (t + 1))) (x := ((x >>> (16 &&& 31)).toInt8.toInt32)) (vp_in_nI (n := t + 1) (N := 2000) (by omega) (by omega)) dX12_lay_19 (fun H locs hP hD hS => ?_)
      rw [show (nI (t + 1)).toNatClampNeg = t + 1 from nI_clamp (n := t + 1) (by omega)] at hP hD
      have hP : va_P (dC, dI) vwCl [(h0, .inr (13, moF a (upd f 1 (nI (t + 1))) w)), (a 0, .inl (cB, 2000, .inl (upd (upd g t (vp_nar .byte ((x >>> (24 &&& 31)).toInt8.toInt32))) (t + 1) (vp_nar .byte ((x >>> (16 &&& 31)).toInt8.toInt32)))))] H := hP
      have hD : va_D A [(h0, .inr (13, moF a (upd f 1 (nI (t + 1))) w)), (a 0, .inl (cB, 2000, .inl (upd (upd g t (vp_nar .byte ((x >>> (24 &&& 31)).toInt8.toInt32))) (t + 1) (vp_nar .byte ((x >>> (16 &&& 31)).toInt8.toInt32)))))] := hD
      refine lv_aload_n hx hb dX12_lay_20 rfl (lv_at hl 1 rfl) ?_
      refine lv_dup hx hb dX12_lay_21 rfl ?_
      refine va_get (D := (dC, dI)) (ci := 13) (v := .int (nI (t + 1))) (C := RX12) (T := TX12) (N := 115) hx hb hts (fun w h => List.mem_cons_of_mem _ (uG_X12 w h)) hown hK hP 0 rfl rfl 1 (by decide) (hts _ (List.mem_cons_of_mem _ kw_1692)) (fun _ h9 => h9) rfl dX12_lay_22 ?_
      refine lv_iconst (v := 1) hx hb dX12_lay_25 (by decide) ?_
      refine lv_iadd hx hb dX12_lay_26 ?_
      refine lv_topi (fun x_4 ex_4 => ?_)
      have ex_4 : x_4 = nI (t + 1 + 1) := ex_4.trans (nI_add (t + 1) 1)
      subst ex_4
      refine va_put (D := (dC, dI)) (ci := 13) (v := .int (nI (t + 1 + 1))) (ty := .int) (C := RX12) (T := TX12) (N := 115) hx hb hts (fun w h => List.mem_cons_of_mem _ (uG_X12 w h)) tyX12 tyX12_ok nmX12 hown hK hP hD hS 0 rfl rfl 1 (by decide) (hts _ (List.mem_cons_of_mem _ kw_1692)) (fun _ h9 => h9) rfl (by decide +kernel) rfl rfl (Nat.le_of_ble_eq_true rfl) dX12_lay_27 (fun H locs hP hD hS => ?_)
      have hP : va_P (dC, dI) vwCl [(h0, .inr (13, moF a (upd f 1 (nI (t + 1 + 1))) w)), (a 0, .inl (cB, 2000, .inl (upd (upd g t (vp_nar .byte ((x >>> (24 &&& 31)).toInt8.toInt32))) (t + 1) (vp_nar .byte ((x >>> (16 &&& 31)).toInt8.toInt32)))))] H := hP
      have hD : va_D A [(h0, .inr (13, moF a (upd f 1 (nI (t + 1 + 1))) w)), (a 0, .inl (cB, 2000, .inl (upd (upd g t (vp_nar .byte ((x >>> (24 &&& 31)).toInt8.toInt32))) (t + 1) (vp_nar .byte ((x >>> (16 &&& 31)).toInt8.toInt32)))))] := hD
      refine lv_iinc (v := 8) (lv' := [(2, .int 8), (0, .ref h0), (1, .int x)]) hx hb dX12_lay_30 hl (k := 0) rfl (by decide) (by decide) rfl (fun ls hl => ?_)
      refine lv_goto (tgt := 3) hx hb dX12_lay_33 (by decide) ?_
      refine lv_iload_n hx hb dX12_lay_3 rfl (lv_at hl 0 rfl) ?_
      refine lv_if_lt (tgt := 36) hx hb dX12_lay_4 (by decide) (fun c_5 => ?_) (fun c_5 => ?_)
      · skip
        exact absurd c_5 (by decide)
      · skip
        refine lv_aload_n hx hb dX12_lay_7 rfl (lv_at hl 1 rfl) ?_
        refine va_get (D := (dC, dI)) (ci := 13) (v := .ref (a 0)) (C := RX12) (T := TX12) (N := 115) hx hb hts (fun w h => List.mem_cons_of_mem _ (uG_X12 w h)) hown hK hP 0 rfl rfl 0 (by decide) (hts _ (List.mem_cons_of_mem _ kw_1691)) (fun _ h9 => h9) rfl dX12_lay_8 ?_
        refine lv_aload_n hx hb dX12_lay_11 rfl (lv_at hl 1 rfl) ?_
        refine va_get (D := (dC, dI)) (ci := 13) (v := .int (nI (t + 1 + 1))) (C := RX12) (T := TX12) (N := 115) hx hb hts (fun w h => List.mem_cons_of_mem _ (uG_X12 w h)) hown hK hP 0 rfl rfl 1 (by decide) (hts _ (List.mem_cons_of_mem _ kw_1692)) (fun _ h9 => h9) rfl dX12_lay_12 ?_
        refine lv_iload_n hx hb dX12_lay_15 rfl (lv_at hl 2 rfl) ?_
        refine lv_iload_n hx hb dX12_lay_16 rfl (lv_at hl 0 rfl) ?_
        refine lv_ishr hx hb dX12_lay_17 ?_
        refine lv_i2b hx hb dX12_lay_18 rfl ?_
        refine va_bast hx hb hK hP hD hS 1 0 rfl rfl (i := (nI (t + 1 + 1))) (x := ((x >>> (8 &&& 31)).toInt8.toInt32)) (vp_in_nI (n := t + 1 + 1) (N := 2000) (by omega) (by omega)) dX12_lay_19 (fun H locs hP hD hS => ?_)
        rw [show (nI (t + 1 + 1)).toNatClampNeg = t + 1 + 1 from nI_clamp (n := t + 1 + 1) (by omega)] at hP hD
        have hP : va_P (dC, dI) vwCl [(h0, .inr (13, moF a (upd f 1 (nI (t + 1 + 1))) w)), (a 0, .inl (cB, 2000, .inl (upd (upd (upd g t (vp_nar .byte ((x >>> (24 &&& 31)).toInt8.toInt32))) (t + 1) (vp_nar .byte ((x >>> (16 &&& 31)).toInt8.toInt32))) (t + 1 + 1) (vp_nar .byte ((x >>> (8 &&& 31)).toInt8.toInt32)))))] H := hP
        have hD : va_D A [(h0, .inr (13, moF a (upd f 1 (nI (t + 1 + 1))) w)), (a 0, .inl (cB, 2000, .inl (upd (upd (upd g t (vp_nar .byte ((x >>> (24 &&& 31)).toInt8.toInt32))) (t + 1) (vp_nar .byte ((x >>> (16 &&& 31)).toInt8.toInt32))) (t + 1 + 1) (vp_nar .byte ((x >>> (8 &&& 31)).toInt8.toInt32)))))] := hD
        refine lv_aload_n hx hb dX12_lay_20 rfl (lv_at hl 1 rfl) ?_
        refine lv_dup hx hb dX12_lay_21 rfl ?_
        refine va_get (D := (dC, dI)) (ci := 13) (v := .int (nI (t + 1 + 1))) (C := RX12) (T := TX12) (N := 115) hx hb hts (fun w h => List.mem_cons_of_mem _ (uG_X12 w h)) hown hK hP 0 rfl rfl 1 (by decide) (hts _ (List.mem_cons_of_mem _ kw_1692)) (fun _ h9 => h9) rfl dX12_lay_22 ?_
        refine lv_iconst (v := 1) hx hb dX12_lay_25 (by decide) ?_
        refine lv_iadd hx hb dX12_lay_26 ?_
        refine lv_topi (fun x_6 ex_6 => ?_)
        have ex_6 : x_6 = nI (t + 1 + 1 + 1) := ex_6.trans (nI_add (t + 1 + 1) 1)
        subst ex_6
        refine va_put (D := (dC, dI)) (ci := 13) (v := .int (nI (t + 1 + 1 + 1))) (ty := .int) (C := RX12) (T := TX12) (N := 115) hx hb hts (fun w h => List.mem_cons_of_mem _ (uG_X12 w h)) tyX12 tyX12_ok nmX12 hown hK hP hD hS 0 rfl rfl 1 (by decide) (hts _ (List.mem_cons_of_mem _ kw_1692)) (fun _ h9 => h9) rfl (by decide +kernel) rfl rfl (Nat.le_of_ble_eq_true rfl) dX12_lay_27 (fun H locs hP hD hS => ?_)
        have hP : va_P (dC, dI) vwCl [(h0, .inr (13, moF a (upd f 1 (nI (t + 1 + 1 + 1))) w)), (a 0, .inl (cB, 2000, .inl (upd (upd (upd g t (vp_nar .byte ((x >>> (24 &&& 31)).toInt8.toInt32))) (t + 1) (vp_nar .byte ((x >>> (16 &&& 31)).toInt8.toInt32))) (t + 1 + 1) (vp_nar .byte ((x >>> (8 &&& 31)).toInt8.toInt32)))))] H := hP
        have hD : va_D A [(h0, .inr (13, moF a (upd f 1 (nI (t + 1 + 1 + 1))) w)), (a 0, .inl (cB, 2000, .inl (upd (upd (upd g t (vp_nar .byte ((x >>> (24 &&& 31)).toInt8.toInt32))) (t + 1) (vp_nar .byte ((x >>> (16 &&& 31)).toInt8.toInt32))) (t + 1 + 1) (vp_nar .byte ((x >>> (8 &&& 31)).toInt8.toInt32)))))] := hD
        refine lv_iinc (v := 0) (lv' := [(2, .int 0), (0, .ref h0), (1, .int x)]) hx hb dX12_lay_30 hl (k := 0) rfl (by decide) (by decide) rfl (fun ls hl => ?_)
        refine lv_goto (tgt := 3) hx hb dX12_lay_33 (by decide) ?_
        refine lv_iload_n hx hb dX12_lay_3 rfl (lv_at hl 0 rfl) ?_
        refine lv_if_lt (tgt := 36) hx hb dX12_lay_4 (by decide) (fun c_7 => ?_) (fun c_7 => ?_)
        · skip
          exact absurd c_7 (by decide)
        · skip
          refine lv_aload_n hx hb dX12_lay_7 rfl (lv_at hl 1 rfl) ?_
          refine va_get (D := (dC, dI)) (ci := 13) (v := .ref (a 0)) (C := RX12) (T := TX12) (N := 115) hx hb hts (fun w h => List.mem_cons_of_mem _ (uG_X12 w h)) hown hK hP 0 rfl rfl 0 (by decide) (hts _ (List.mem_cons_of_mem _ kw_1691)) (fun _ h9 => h9) rfl dX12_lay_8 ?_
          refine lv_aload_n hx hb dX12_lay_11 rfl (lv_at hl 1 rfl) ?_
          refine va_get (D := (dC, dI)) (ci := 13) (v := .int (nI (t + 1 + 1 + 1))) (C := RX12) (T := TX12) (N := 115) hx hb hts (fun w h => List.mem_cons_of_mem _ (uG_X12 w h)) hown hK hP 0 rfl rfl 1 (by decide) (hts _ (List.mem_cons_of_mem _ kw_1692)) (fun _ h9 => h9) rfl dX12_lay_12 ?_
          refine lv_iload_n hx hb dX12_lay_15 rfl (lv_at hl 2 rfl) ?_
          refine lv_iload_n hx hb dX12_lay_16 rfl (lv_at hl 0 rfl) ?_
          refine lv_ishr hx hb dX12_lay_17 ?_
          refine lv_i2b hx hb dX12_lay_18 rfl ?_
          refine va_bast hx hb hK hP hD hS 1 0 rfl rfl (i := (nI (t + 1 + 1 + 1))) (x := ((x >>> (0 &&& 31)).toInt8.toInt32)) (vp_in_nI (n := t + 1 + 1 + 1) (N := 2000) (by omega) (by omega)) dX12_lay_19 (fun H locs hP hD hS => ?_)
          rw [show (nI (t + 1 + 1 + 1)).toNatClampNeg = t + 1 + 1 + 1 from nI_clamp (n := t + 1 + 1 + 1) (by omega)] at hP hD
          have hP : va_P (dC, dI) vwCl [(h0, .inr (13, moF a (upd f 1 (nI (t + 1 + 1 + 1))) w)), (a 0, .inl (cB, 2000, .inl (upd (upd (upd (upd g t (vp_nar .byte ((x >>> (24 &&& 31)).toInt8.toInt32))) (t + 1) (vp_nar .byte ((x >>> (16 &&& 31)).toInt8.toInt32))) (t + 1 + 1) (vp_nar .byte ((x >>> (8 &&& 31)).toInt8.toInt32))) (t + 1 + 1 + 1) (vp_nar .byte ((x >>> (0 &&& 31)).toInt8.toInt32)))))] H := hP
          have hD : va_D A [(h0, .inr (13, moF a (upd f 1 (nI (t + 1 + 1 + 1))) w)), (a 0, .inl (cB, 2000, .inl (upd (upd (upd (upd g t (vp_nar .byte ((x >>> (24 &&& 31)).toInt8.toInt32))) (t + 1) (vp_nar .byte ((x >>> (16 &&& 31)).toInt8.toInt32))) (t + 1 + 1) (vp_nar .byte ((x >>> (8 &&& 31)).toInt8.toInt32))) (t + 1 + 1 + 1) (vp_nar .byte ((x >>> (0 &&& 31)).toInt8.toInt32)))))] := hD
          refine lv_aload_n hx hb dX12_lay_20 rfl (lv_at hl 1 rfl) ?_
          refine lv_dup hx hb dX12_lay_21 rfl ?_
          refine va_get (D := (dC, dI)) (ci := 13) (v := .int (nI (t + 1 + 1 + 1))) (C := RX12) (T := TX12) (N := 115) hx hb hts (fun w h => List.mem_cons_of_mem _ (uG_X12 w h)) hown hK hP 0 rfl rfl 1 (by decide) (hts _ (List.mem_cons_of_mem _ kw_1692)) (fun _ h9 => h9) rfl dX12_lay_22 ?_
          refine lv_iconst (v := 1) hx hb dX12_lay_25 (by decide) ?_
          refine lv_iadd hx hb dX12_lay_26 ?_
          refine lv_topi (fun x_8 ex_8 => ?_)
          have ex_8 : x_8 = nI (t + 1 + 1 + 1 + 1) := ex_8.trans (nI_add (t + 1 + 1 + 1) 1)
          subst ex_8
          refine va_put (D := (dC, dI)) (ci := 13) (v := .int (nI (t + 1 + 1 + 1 + 1))) (ty := .int) (C := RX12) (T := TX12) (N := 115) hx hb hts (fun w h => List.mem_cons_of_mem _ (uG_X12 w h)) tyX12 tyX12_ok nmX12 hown hK hP hD hS 0 rfl rfl 1 (by decide) (hts _ (List.mem_cons_of_mem _ kw_1692)) (fun _ h9 => h9) rfl (by decide +kernel) rfl rfl (Nat.le_of_ble_eq_true rfl) dX12_lay_27 (fun H locs hP hD hS => ?_)
          have hP : va_P (dC, dI) vwCl [(h0, .inr (13, moF a (upd f 1 (nI (t + 1 + 1 + 1 + 1))) w)), (a 0, .inl (cB, 2000, .inl (upd (upd (upd (upd g t (vp_nar .byte ((x >>> (24 &&& 31)).toInt8.toInt32))) (t + 1) (vp_nar .byte ((x >>> (16 &&& 31)).toInt8.toInt32))) (t + 1 + 1) (vp_nar .byte ((x >>> (8 &&& 31)).toInt8.toInt32))) (t + 1 + 1 + 1) (vp_nar .byte ((x >>> (0 &&& 31)).toInt8.toInt32)))))] H := hP
          have hD : va_D A [(h0, .inr (13, moF a (upd f 1 (nI (t + 1 + 1 + 1 + 1))) w)), (a 0, .inl (cB, 2000, .inl (upd (upd (upd (upd g t (vp_nar .byte ((x >>> (24 &&& 31)).toInt8.toInt32))) (t + 1) (vp_nar .byte ((x >>> (16 &&& 31)).toInt8.toInt32))) (t + 1 + 1) (vp_nar .byte ((x >>> (8 &&& 31)).toInt8.toInt32))) (t + 1 + 1 + 1) (vp_nar .byte ((x >>> (0 &&& 31)).toInt8.toInt32)))))] := hD
          refine lv_iinc (v := (-8)) (lv' := [(2, .int (-8)), (0, .ref h0), (1, .int x)]) hx hb dX12_lay_30 hl (k := 0) rfl (by decide) (by decide) rfl (fun ls hl => ?_)
          refine lv_goto (tgt := 3) hx hb dX12_lay_33 (by decide) ?_
          refine lv_iload_n hx hb dX12_lay_3 rfl (lv_at hl 0 rfl) ?_
          refine lv_if_lt (tgt := 36) hx hb dX12_lay_4 (by decide) (fun c_9 => ?_) (fun c_9 => ?_)
          · skip
            have hP9 := hP.sub (ws' := [(h0, .inr (13, moF a (upd f 1 (nI (t + 1 + 1 + 1 + 1))) w)), (a 0, .inl (cB, 2000, .inl (upd (upd (upd (upd g t (vp_nar .byte ((x >>> (24 &&& 31)).toInt8.toInt32))) (t + 1) (vp_nar .byte ((x >>> (16 &&& 31)).toInt8.toInt32))) (t + 1 + 1) (vp_nar .byte ((x >>> (8 &&& 31)).toInt8.toInt32))) (t + 1 + 1 + 1) (vp_nar .byte ((x >>> (0 &&& 31)).toInt8.toInt32)))))]) [0, 1] rfl
            have hD9 := hD.sub (ws' := [(h0, .inr (13, moF a (upd f 1 (nI (t + 1 + 1 + 1 + 1))) w)), (a 0, .inl (cB, 2000, .inl (upd (upd (upd (upd g t (vp_nar .byte ((x >>> (24 &&& 31)).toInt8.toInt32))) (t + 1) (vp_nar .byte ((x >>> (16 &&& 31)).toInt8.toInt32))) (t + 1 + 1) (vp_nar .byte ((x >>> (8 &&& 31)).toInt8.toInt32))) (t + 1 + 1 + 1) (vp_nar .byte ((x >>> (0 &&& 31)).toInt8.toInt32)))))]) [0, 1] (by decide) rfl
            have hK9 := hK.sub (tys' := [(cB, .byte), (cI, .int), (cJ, .long), (cZ, .boolean)]) [0, 1, 2, 3] rfl
            exact W.vret hx hb hr (fun t_ ht hW => ⟨⟨(), rfl, trivial, by rw [ht]; exact hP9, va_K.moved hW.alike hK9, hD9⟩, hS.F ht⟩) hS.2.2 dX12_lay_36
          · skip
            exact absurd c_9 (by decide)
theorem dX11_feed_0 : decode cX11_feed 0 = .ok (.aload_n 0, 1) := by decide +kernel
theorem dX11_feed_1 : decode cX11_feed 1 = .ok (.getfield 59, 3) := by decide +kernel
theorem dX11_feed_4 : decode cX11_feed 4 = .ok (.sipush 1980, 3) := by decide +kernel
theorem dX11_feed_7 : decode cX11_feed 7 = .ok (.if_icmp .le 5, 3) := by decide +kernel
theorem dX11_feed_10 : decode cX11_feed 10 = .ok (.iconst (-1), 1) := by decide +kernel
theorem dX11_feed_11 : decode cX11_feed 11 = .ok (.ireturn, 1) := by decide +kernel
theorem dX11_feed_12 : decode cX11_feed 12 = .ok (.aload_n 0, 1) := by decide +kernel
theorem dX11_feed_13 : decode cX11_feed 13 = .ok (.iload_n 1, 1) := by decide +kernel
theorem dX11_feed_14 : decode cX11_feed 14 = .ok (.invokevirtual 63, 3) := by decide +kernel
theorem dX11_feed_17 : decode cX11_feed 17 = .ok (.aload_n 0, 1) := by decide +kernel
theorem dX11_feed_18 : decode cX11_feed 18 = .ok (.iload_n 2, 1) := by decide +kernel
theorem dX11_feed_19 : decode cX11_feed 19 = .ok (.invokevirtual 63, 3) := by decide +kernel
theorem dX11_feed_22 : decode cX11_feed 22 = .ok (.aload_n 0, 1) := by decide +kernel
theorem dX11_feed_23 : decode cX11_feed 23 = .ok (.iload_n 3, 1) := by decide +kernel
theorem dX11_feed_24 : decode cX11_feed 24 = .ok (.invokevirtual 63, 3) := by decide +kernel
theorem dX11_feed_27 : decode cX11_feed 27 = .ok (.aload_n 0, 1) := by decide +kernel
theorem dX11_feed_28 : decode cX11_feed 28 = .ok (.iload 4, 2) := by decide +kernel
theorem dX11_feed_30 : decode cX11_feed 30 = .ok (.invokevirtual 63, 3) := by decide +kernel
theorem dX11_feed_33 : decode cX11_feed 33 = .ok (.aload_n 0, 1) := by decide +kernel
theorem dX11_feed_34 : decode cX11_feed 34 = .ok (.iload 5, 2) := by decide +kernel
theorem dX11_feed_36 : decode cX11_feed 36 = .ok (.invokevirtual 63, 3) := by decide +kernel
theorem dX11_feed_39 : decode cX11_feed 39 = .ok (.aload_n 0, 1) := by decide +kernel
theorem dX11_feed_40 : decode cX11_feed 40 = .ok (.getfield 59, 3) := by decide +kernel
theorem dX11_feed_43 : decode cX11_feed 43 = .ok (.ireturn, 1) := by decide +kernel
abbrev cs_t_X11_feed (cB cI cJ cZ : ClassId) (h0 hT : Nat) (g : Nat → Int32) (t : Nat) (v2 v3 v5 v6 v7 v8 v9 v10 v12 v13 v15 : Value) (lf ar ct : Int32) (x1 x2 x3 x4 x5 : Int32) : va_W := [(h0, .inr (12, [.ref hT, .int (nI t), v2, v3, .int lf, v5, v6, v7, v8, v9, v10, .int ar, v12, v13, .int ct, v15])), (hT, .inl (cB, 2000, .inl g))]
abbrev pc_t_X11_feed (dC : Nat → ClassId) (dI : Nat → Nat → Nat) (sz : Nat) (cB cI cJ cZ : ClassId) (h0 hT : Nat) (g : Nat → Int32) (t : Nat) (v2 v3 v5 v6 v7 v8 v9 v10 v12 v13 v15 : Value) (lf ar ct : Int32) (x1 x2 x3 x4 x5 : Int32) : Array Value → State → Prop := va_Pc [.ref h0, .int x1, .int x2, .int x3, .int x4, .int x5] (fun U => U.heap.size = sz ∧ va_P (dC, dI) vwCl [(h0, .inr (12, [.ref hT, .int (nI t), v2, v3, .int lf, v5, v6, v7, v8, v9, v10, .int ar, v12, v13, .int ct, v15])), (hT, .inl (cB, 2000, .inl g))] U.heap ∧ va_K (dC, dI) vwCl [(cB, .byte), (cI, .int), (cJ, .long), (cZ, .boolean)] U ∧ va_D (fun _ => True) [(h0, .inr (12, [.ref hT, .int (nI t), v2, v3, .int lf, v5, v6, v7, v8, v9, v10, .int ar, v12, v13, .int ct, v15])), (hT, .inl (cB, 2000, .inl g))])
abbrev qc_t_X11_feed (dC : Nat → ClassId) (dI : Nat → Nat → Nat) (cB cI cJ cZ : ClassId) (h0 hT : Nat) (g : Nat → Int32) (t : Nat) (v2 v3 v5 v6 v7 v8 v9 v10 v12 v13 v15 : Value) (lf ar ct : Int32) (x1 x2 x3 x4 x5 : Int32) (A : Nat → Prop) : Array Value → State → Outcome → State → Prop := va_Qi (fun (r : Int32) (u : Nat × (Nat → Int32)) => match u with | (t2, g2) => r = feedR t ∧ t2 = feedT t ∧ g2 = feedG g t x1 x2 x3 x4 x5) (fun (u : Nat × (Nat → Int32)) t_ => match u with | (t2, g2) => va_P (dC, dI) vwCl [(h0, .inr (12, [.ref hT, .int (nI t2), v2, v3, .int lf, v5, v6, v7, v8, v9, v10, .int ar, v12, v13, .int ct, v15])), (hT, .inl (cB, 2000, .inl g2))] t_.heap ∧ va_K (dC, dI) vwCl [(cB, .byte), (cI, .int), (cJ, .long), (cZ, .boolean)] t_ ∧ va_D A [(h0, .inr (12, [.ref hT, .int (nI t2), v2, v3, .int lf, v5, v6, v7, v8, v9, v10, .int ar, v12, v13, .int ct, v15])), (hT, .inl (cB, 2000, .inl g2))]) A
set_option maxHeartbeats 4000000 in
set_option maxRecDepth 100000 in
theorem t_X11_feed (l : Launch) (dC : Nat → ClassId) (dI : Nat → Nat → Nat) (sz : Nat) (cB cI cJ cZ : ClassId) (h0 hT : Nat) (g : Nat → Int32) (t : Nat) (v2 v3 v5 v6 v7 v8 v9 v10 v12 v13 v15 : Value) (lf ar ct : Int32) (x1 x2 x3 x4 x5 : Int32) (ht : t ≤ 2000) : Met l yX11_feed (wsOf yX11_feed cX11_feed 6 (some .int)) ({ frames := 1, cells := 0, slots := 0, locals := 22 }) (pc_t_X11_feed dC dI sz cB cI cJ cZ h0 hT g t v2 v3 v5 v6 v7 v8 v9 v10 v12 v13 v15 lf ar ct x1 x2 x3 x4 x5) (qc_t_X11_feed dC dI cB cI cJ cZ h0 hT g t v2 v3 v5 v6 v7 v8 v9 v10 v12 v13 v15 lf ar ct x1 x2 x3 x4 x5 (va_A (cs_t_X11_feed cB cI cJ cZ h0 hT g t v2 v3 v5 v6 v7 v8 v9 v10 v12 v13 v15 lf ar ct x1 x2 x3 x4 x5) sz)) 0 0 (va_A (cs_t_X11_feed cB cI cJ cZ h0 hT g t v2 v3 v5 v6 v7 v8 v9 v10 v12 v13 v15 lf ar ct x1 x2 x3 x4 x5) sz) := by
  refine Met.ofW (cc := cX11_feed) (maxL := 6) (ret := (some .int)) (by decide) rfl ?_
  intro p e s m args below meth c s₁ B hml hv
  obtain ⟨rfl, hsz, hP, hK, hD0⟩ := hv
  have hx := B.exec
  have hb := B.bytes
  have hr := B.returns
  have hts := atoms_spec (ws := (wsOf yX11_feed cX11_feed 6 (some .int))) B.pre
  have hown : s.vm.findClass RX11 = some m.cls := findClass_of_methodNamed B.named
  have hlocks := B.notSynchronized
  subst hsz
  have hD := hD0.self (sz := s.heap.size)
  generalize hAe : va_A (cs_t_X11_feed cB cI cJ cZ h0 hT g t v2 v3 v5 v6 v7 v8 v9 v10 v12 v13 v15 lf ar ct x1 x2 x3 x4 x5) s.heap.size = A at hD ⊢
  have hA : ∀ q : Nat, s.heap.size ≤ q → A q := fun q h => by rw [← hAe]; exact Or.inr h
  have hS : va_S A s.heap s.heap [] := va_S.rf
  have hP : va_P (dC, dI) vwCl [(h0, .inr (12, [.ref hT, .int (nI t), v2, v3, .int lf, v5, v6, v7, v8, v9, v10, .int ar, v12, v13, .int ct, v15])), (hT, .inl (cB, 2000, .inl g))] s.heap := hP
  have hl := lv_entry ([.ref h0, .int x1, .int x2, .int x3, .int x4, .int x5]) (n := 6) (Nat.le_of_ble_eq_true rfl)
  rw [lg_entry_eq]
  generalize (lg_sl ([.ref h0, .int x1, .int x2, .int x3, .int x4, .int x5]) ++ List.replicate (6 - (lg_sl ([.ref h0, .int x1, .int x2, .int x3, .int x4, .int x5])).length) Slot.unset).toArray = ls at hl ⊢
  have hl : lv_has ls 6 [(0, .ref h0), (1, .int x1), (2, .int x2), (3, .int x3), (4, .int x4), (5, .int x5)] := hl
  refine lv_aload_n hx hb dX11_feed_0 rfl (lv_at hl 0 rfl) ?_
  refine va_get (D := (dC, dI)) (ci := 12) (v := .int (nI t)) (C := RX11) (T := TX11) (N := 16) hx hb hts (fun w h => List.mem_cons_of_mem _ (uG_X11 w h)) hown hK hP 0 rfl rfl 1 (by decide) (hts _ (List.mem_cons_of_mem _ kw_429)) (fun _ h9 => h9) rfl dX11_feed_1 ?_
  refine lv_sipush (v := 1980) hx hb dX11_feed_4 (by decide) ?_
  refine lv_icmp_le (tgt := 12) hx hb dX11_feed_7 (by decide) (fun c_1 => ?_) (fun c_1 => ?_)
  · skip
    have c_1 : t ≤ 1980 := (nI_leI (a := t) (b := 1980) (by omega) (by omega)).mp c_1
    refine lv_aload_n hx hb dX11_feed_12 rfl (lv_at hl 0 rfl) ?_
    refine lv_iload_n hx hb dX11_feed_13 rfl (lv_at hl 1 rfl) ?_
    have hPc := hP.sub (ws' := [(h0, .inr (12, [.ref hT, .int (nI t), v2, v3, .int lf, v5, v6, v7, v8, v9, v10, .int ar, v12, v13, .int ct, v15])), (hT, .inl (cB, 2000, .inl g))]) [0, 1] rfl
    have hDc := hD.sub (ws' := [(h0, .inr (12, [.ref hT, .int (nI t), v2, v3, .int lf, v5, v6, v7, v8, v9, v10, .int ar, v12, v13, .int ct, v15])), (hT, .inl (cB, 2000, .inl g))]) [0, 1] (by decide) rfl
    have hKc := hK.sub (tys' := [(cB, .byte), (cI, .int), (cJ, .long), (cZ, .boolean)]) [0, 1, 2, 3] rfl
    have hFc := va_free (wc := [(h0, .inr (12, [.ref hT, .int (nI t), v2, v3, .int lf, v5, v6, v7, v8, v9, v10, .int ar, v12, v13, .int ct, v15])), (hT, .inl (cB, 2000, .inl g))]) hD hS hA [0, 1] rfl
    refine va_callv (va_runV (As := [.int x1]) (rest := []) ⟨hx, hb, hml, hown, hts⟩ (t_X11_takeFour l dC dI s.heap.size cB cI cJ cZ h0 hT g t v2 v3 v5 v6 v7 v8 v9 v10 v12 v13 v15 lf ar ct x1 (by omega)) (cwV 1 hts (gd_all (in_V kw_481 kw_483 kw_0 kw_181 kc_X11_takeFour)) rfl rfl rfl (by decide +kernel) ⟨Nat.le_of_ble_eq_true rfl, Nat.le_of_ble_eq_true rfl⟩) ⟨fun a U g mk q => by obtain ⟨q0, q1, qP, qK, qD⟩ := q; exact ⟨q0, q1, qP, va_K.moved (u := U) (U := U.calling g mk a) (Vm.Alike.refl U.vm) qK, qD⟩, va_recv hKc hPc (ci := 12) (q0 := 0) rfl rfl, fun U hU hW => ⟨rfl, by rw [hU], by rw [hU]; exact hPc, va_K.moved hW.alike hKc, hDc.weaken (fun _ _ _ _ => trivial)⟩⟩ rfl rfl hl.1 rfl (lv_room (Nat.le_of_ble_eq_true rfl)) dX11_feed_14 ⟨Nat.le_of_ble_eq_true rfl, Nat.le_of_ble_eq_true rfl⟩) hS (fun q _ h => hFc q h) hFc (fun u t_ H1 locs ht hvm hw hB hz1 hk1 hS => ?_)
    obtain ⟨hP1, hK1, hD1⟩ := hB
    rw [ht] at hP1
    have hK1 := va_K.moved hvm.symm hK1
    obtain ⟨hP, hD⟩ := va_join (wr := []) (w1 := [(h0, .inr (12, [.ref hT, .int (nI (t + 4)), v2, v3, .int lf, v5, v6, v7, v8, v9, v10, .int ar, v12, v13, .int ct, v15])), (hT, .inl (cB, 2000, .inl (lay4 g t x1)))]) hP hD [0, 1] [] rfl rfl (by decide) (by decide) hk1 hFc hP1 hD1
    have hK := (hK.sub (tys' := []) [] rfl).app hK1
    generalize H1 = H at hP hS ⊢
    have hP : va_P (dC, dI) vwCl [(h0, .inr (12, [.ref hT, .int (nI (t + 4)), v2, v3, .int lf, v5, v6, v7, v8, v9, v10, .int ar, v12, v13, .int ct, v15])), (hT, .inl (cB, 2000, .inl (lay4 g t x1)))] H := hP
    have hD : va_D A [(h0, .inr (12, [.ref hT, .int (nI (t + 4)), v2, v3, .int lf, v5, v6, v7, v8, v9, v10, .int ar, v12, v13, .int ct, v15])), (hT, .inl (cB, 2000, .inl (lay4 g t x1)))] := hD
    have hK : va_K (dC, dI) vwCl [(cB, .byte), (cI, .int), (cJ, .long), (cZ, .boolean)] s := hK
    refine lv_aload_n hx hb dX11_feed_17 rfl (lv_at hl 0 rfl) ?_
    refine lv_iload_n hx hb dX11_feed_18 rfl (lv_at hl 2 rfl) ?_
    have hPc := hP.sub (ws' := [(h0, .inr (12, [.ref hT, .int (nI (t + 4)), v2, v3, .int lf, v5, v6, v7, v8, v9, v10, .int ar, v12, v13, .int ct, v15])), (hT, .inl (cB, 2000, .inl (lay4 g t x1)))]) [0, 1] rfl
    have hDc := hD.sub (ws' := [(h0, .inr (12, [.ref hT, .int (nI (t + 4)), v2, v3, .int lf, v5, v6, v7, v8, v9, v10, .int ar, v12, v13, .int ct, v15])), (hT, .inl (cB, 2000, .inl (lay4 g t x1)))]) [0, 1] (by decide) rfl
    have hKc := hK.sub (tys' := [(cB, .byte), (cI, .int), (cJ, .long), (cZ, .boolean)]) [0, 1, 2, 3] rfl
    have hFc := va_free (wc := [(h0, .inr (12, [.ref hT, .int (nI (t + 4)), v2, v3, .int lf, v5, v6, v7, v8, v9, v10, .int ar, v12, v13, .int ct, v15])), (hT, .inl (cB, 2000, .inl (lay4 g t x1)))]) hD hS hA [0, 1] rfl
    refine va_callv (va_runV (As := [.int x2]) (rest := []) ⟨hx, hb, hml, hown, hts⟩ (t_X11_takeFour l dC dI H.size cB cI cJ cZ h0 hT (lay4 g t x1) (t + 4) v2 v3 v5 v6 v7 v8 v9 v10 v12 v13 v15 lf ar ct x2 (by omega)) (cwV 1 hts (gd_all (in_V kw_481 kw_483 kw_0 kw_181 kc_X11_takeFour)) rfl rfl rfl (by decide +kernel) ⟨Nat.le_of_ble_eq_true rfl, Nat.le_of_ble_eq_true rfl⟩) ⟨fun a U g mk q => by obtain ⟨q0, q1, qP, qK, qD⟩ := q; exact ⟨q0, q1, qP, va_K.moved (u := U) (U := U.calling g mk a) (Vm.Alike.refl U.vm) qK, qD⟩, va_recv hKc hPc (ci := 12) (q0 := 0) rfl rfl, fun U hU hW => ⟨rfl, by rw [hU], by rw [hU]; exact hPc, va_K.moved hW.alike hKc, hDc.weaken (fun _ _ _ _ => trivial)⟩⟩ rfl rfl hl.1 rfl (lv_room (Nat.le_of_ble_eq_true rfl)) dX11_feed_19 ⟨Nat.le_of_ble_eq_true rfl, Nat.le_of_ble_eq_true rfl⟩) hS (fun q _ h => hFc q h) hFc (fun u t_ H1 locs ht hvm hw hB hz1 hk1 hS => ?_)
    obtain ⟨hP1, hK1, hD1⟩ := hB
    rw [ht] at hP1
    have hK1 := va_K.moved hvm.symm hK1
    obtain ⟨hP, hD⟩ := va_join (wr := []) (w1 := [(h0, .inr (12, [.ref hT, .int (nI (t + 4 + 4)), v2, v3, .int lf, v5, v6, v7, v8, v9, v10, .int ar, v12, v13, .int ct, v15])), (hT, .inl (cB, 2000, .inl (lay4 (lay4 g t x1) (t + 4) x2)))]) hP hD [0, 1] [] rfl rfl (by decide) (by decide) hk1 hFc hP1 hD1
    have hK := (hK.sub (tys' := []) [] rfl).app hK1
    generalize H1 = H at hP hS ⊢
    have hP : va_P (dC, dI) vwCl [(h0, .inr (12, [.ref hT, .int (nI (t + 4 + 4)), v2, v3, .int lf, v5, v6, v7, v8, v9, v10, .int ar, v12, v13, .int ct, v15])), (hT, .inl (cB, 2000, .inl (lay4 (lay4 g t x1) (t + 4) x2)))] H := hP
    have hD : va_D A [(h0, .inr (12, [.ref hT, .int (nI (t + 4 + 4)), v2, v3, .int lf, v5, v6, v7, v8, v9, v10, .int ar, v12, v13, .int ct, v15])), (hT, .inl (cB, 2000, .inl (lay4 (lay4 g t x1) (t + 4) x2)))] := hD
    have hK : va_K (dC, dI) vwCl [(cB, .byte), (cI, .int), (cJ, .long), (cZ, .boolean)] s := hK
    refine lv_aload_n hx hb dX11_feed_22 rfl (lv_at hl 0 rfl) ?_
    refine lv_iload_n hx hb dX11_feed_23 rfl (lv_at hl 3 rfl) ?_
    have hPc := hP.sub (ws' := [(h0, .inr (12, [.ref hT, .int (nI (t + 4 + 4)), v2, v3, .int lf, v5, v6, v7, v8, v9, v10, .int ar, v12, v13, .int ct, v15])), (hT, .inl (cB, 2000, .inl (lay4 (lay4 g t x1) (t + 4) x2)))]) [0, 1] rfl
    have hDc := hD.sub (ws' := [(h0, .inr (12, [.ref hT, .int (nI (t + 4 + 4)), v2, v3, .int lf, v5, v6, v7, v8, v9, v10, .int ar, v12, v13, .int ct, v15])), (hT, .inl (cB, 2000, .inl (lay4 (lay4 g t x1) (t + 4) x2)))]) [0, 1] (by decide) rfl
    have hKc := hK.sub (tys' := [(cB, .byte), (cI, .int), (cJ, .long), (cZ, .boolean)]) [0, 1, 2, 3] rfl
    have hFc := va_free (wc := [(h0, .inr (12, [.ref hT, .int (nI (t + 4 + 4)), v2, v3, .int lf, v5, v6, v7, v8, v9, v10, .int ar, v12, v13, .int ct, v15])), (hT, .inl (cB, 2000, .inl (lay4 (lay4 g t x1) (t + 4) x2)))]) hD hS hA [0, 1] rfl
    refine va_callv (va_runV (As := [.int x3]) (rest := []) ⟨hx, hb, hml, hown, hts⟩ (t_X11_takeFour l dC dI H.size cB cI cJ cZ h0 hT (lay4 (lay4 g t x1) (t + 4) x2) (t + 4 + 4) v2 v3 v5 v6 v7 v8 v9 v10 v12 v13 v15 lf ar ct x3 (by omega)) (cwV 1 hts (gd_all (in_V kw_481 kw_483 kw_0 kw_181 kc_X11_takeFour)) rfl rfl rfl (by decide +kernel) ⟨Nat.le_of_ble_eq_true rfl, Nat.le_of_ble_eq_true rfl⟩) ⟨fun a U g mk q => by obtain ⟨q0, q1, qP, qK, qD⟩ := q; exact ⟨q0, q1, qP, va_K.moved (u := U) (U := U.calling g mk a) (Vm.Alike.refl U.vm) qK, qD⟩, va_recv hKc hPc (ci := 12) (q0 := 0) rfl rfl, fun U hU hW => ⟨rfl, by rw [hU], by rw [hU]; exact hPc, va_K.moved hW.alike hKc, hDc.weaken (fun _ _ _ _ => trivial)⟩⟩ rfl rfl hl.1 rfl (lv_room (Nat.le_of_ble_eq_true rfl)) dX11_feed_24 ⟨Nat.le_of_ble_eq_true rfl, Nat.le_of_ble_eq_true rfl⟩) hS (fun q _ h => hFc q h) hFc (fun u t_ H1 locs ht hvm hw hB hz1 hk1 hS => ?_)
    obtain ⟨hP1, hK1, hD1⟩ := hB
    rw [ht] at hP1
    have hK1 := va_K.moved hvm.symm hK1
    obtain ⟨hP, hD⟩ := va_join (wr := []) (w1 := [(h0, .inr (12, [.ref hT, .int (nI (t + 4 + 4 + 4)), v2, v3, .int lf, v5, v6, v7, v8, v9, v10, .int ar, v12, v13, .int ct, v15])), (hT, .inl (cB, 2000, .inl (lay4 (lay4 (lay4 g t x1) (t + 4) x2) (t + 4 + 4) x3)))]) hP hD [0, 1] [] rfl rfl (by decide) (by decide) hk1 hFc hP1 hD1
    have hK := (hK.sub (tys' := []) [] rfl).app hK1
    generalize H1 = H at hP hS ⊢
    have hP : va_P (dC, dI) vwCl [(h0, .inr (12, [.ref hT, .int (nI (t + 4 + 4 + 4)), v2, v3, .int lf, v5, v6, v7, v8, v9, v10, .int ar, v12, v13, .int ct, v15])), (hT, .inl (cB, 2000, .inl (lay4 (lay4 (lay4 g t x1) (t + 4) x2) (t + 4 + 4) x3)))] H := hP
    have hD : va_D A [(h0, .inr (12, [.ref hT, .int (nI (t + 4 + 4 + 4)), v2, v3, .int lf, v5, v6, v7, v8, v9, v10, .int ar, v12, v13, .int ct, v15])), (hT, .inl (cB, 2000, .inl (lay4 (lay4 (lay4 g t x1) (t + 4) x2) (t + 4 + 4) x3)))] := hD
    have hK : va_K (dC, dI) vwCl [(cB, .byte), (cI, .int), (cJ, .long), (cZ, .boolean)] s := hK
    refine lv_aload_n hx hb dX11_feed_27 rfl (lv_at hl 0 rfl) ?_
    refine lv_iload hx hb dX11_feed_28 (lv_at hl 4 rfl) ?_
    have hPc := hP.sub (ws' := [(h0, .inr (12, [.ref hT, .int (nI (t + 4 + 4 + 4)), v2, v3, .int lf, v5, v6, v7, v8, v9, v10, .int ar, v12, v13, .int ct, v15])), (hT, .inl (cB, 2000, .inl (lay4 (lay4 (lay4 g t x1) (t + 4) x2) (t + 4 + 4) x3)))]) [0, 1] rfl
    have hDc := hD.sub (ws' := [(h0, .inr (12, [.ref hT, .int (nI (t + 4 + 4 + 4)), v2, v3, .int lf, v5, v6, v7, v8, v9, v10, .int ar, v12, v13, .int ct, v15])), (hT, .inl (cB, 2000, .inl (lay4 (lay4 (lay4 g t x1) (t + 4) x2) (t + 4 + 4) x3)))]) [0, 1] (by decide) rfl
    have hKc := hK.sub (tys' := [(cB, .byte), (cI, .int), (cJ, .long), (cZ, .boolean)]) [0, 1, 2, 3] rfl
    have hFc := va_free (wc := [(h0, .inr (12, [.ref hT, .int (nI (t + 4 + 4 + 4)), v2, v3, .int lf, v5, v6, v7, v8, v9, v10, .int ar, v12, v13, .int ct, v15])), (hT, .inl (cB, 2000, .inl (lay4 (lay4 (lay4 g t x1) (t + 4) x2) (t + 4 + 4) x3)))]) hD hS hA [0, 1] rfl
    refine va_callv (va_runV (As := [.int x4]) (rest := []) ⟨hx, hb, hml, hown, hts⟩ (t_X11_takeFour l dC dI H.size cB cI cJ cZ h0 hT (lay4 (lay4 (lay4 g t x1) (t + 4) x2) (t + 4 + 4) x3) (t + 4 + 4 + 4) v2 v3 v5 v6 v7 v8 v9 v10 v12 v13 v15 lf ar ct x4 (by omega)) (cwV 1 hts (gd_all (in_V kw_481 kw_483 kw_0 kw_181 kc_X11_takeFour)) rfl rfl rfl (by decide +kernel) ⟨Nat.le_of_ble_eq_true rfl, Nat.le_of_ble_eq_true rfl⟩) ⟨fun a U g mk q => by obtain ⟨q0, q1, qP, qK, qD⟩ := q; exact ⟨q0, q1, qP, va_K.moved (u := U) (U := U.calling g mk a) (Vm.Alike.refl U.vm) qK, qD⟩, va_recv hKc hPc (ci := 12) (q0 := 0) rfl rfl, fun U hU hW => ⟨rfl, by rw [hU], by rw [hU]; exact hPc, va_K.moved hW.alike hKc, hDc.weaken (fun _ _ _ _ => trivial)⟩⟩ rfl rfl hl.1 rfl (lv_room (Nat.le_of_ble_eq_true rfl)) dX11_feed_30 ⟨Nat.le_of_ble_eq_true rfl, Nat.le_of_ble_eq_true rfl⟩) hS (fun q _ h => hFc q h) hFc (fun u t_ H1 locs ht hvm hw hB hz1 hk1 hS => ?_)
    obtain ⟨hP1, hK1, hD1⟩ := hB
    rw [ht] at hP1
    have hK1 := va_K.moved hvm.symm hK1
    obtain ⟨hP, hD⟩ := va_join (wr := []) (w1 := [(h0, .inr (12, [.ref hT, .int (nI (t + 4 + 4 + 4 + 4)), v2, v3, .int lf, v5, v6, v7, v8, v9, v10, .int ar, v12, v13, .int ct, v15])), (hT, .inl (cB, 2000, .inl (lay4 (lay4 (lay4 (lay4 g t x1) (t + 4) x2) (t + 4 + 4) x3) (t + 4 + 4 + 4) x4)))]) hP hD [0, 1] [] rfl rfl (by decide) (by decide) hk1 hFc hP1 hD1
    have hK := (hK.sub (tys' := []) [] rfl).app hK1
    generalize H1 = H at hP hS ⊢
    have hP : va_P (dC, dI) vwCl [(h0, .inr (12, [.ref hT, .int (nI (t + 4 + 4 + 4 + 4)), v2, v3, .int lf, v5, v6, v7, v8, v9, v10, .int ar, v12, v13, .int ct, v15])), (hT, .inl (cB, 2000, .inl (lay4 (lay4 (lay4 (lay4 g t x1) (t + 4) x2) (t + 4 + 4) x3) (t + 4 + 4 + 4) x4)))] H := hP
    have hD : va_D A [(h0, .inr (12, [.ref hT, .int (nI (t + 4 + 4 + 4 + 4)), v2, v3, .int lf, v5, v6, v7, v8, v9, v10, .int ar, v12, v13, .int ct, v15])), (hT, .inl (cB, 2000, .inl (lay4 (lay4 (lay4 (lay4 g t x1) (t + 4) x2) (t + 4 + 4) x3) (t + 4 + 4 + 4) x4)))] := hD
    have hK : va_K (dC, dI) vwCl [(cB, .byte), (cI, .int), (cJ, .long), (cZ, .boolean)] s := hK
    refine lv_aload_n hx hb dX11_feed_33 rfl (lv_at hl 0 rfl) ?_
    refine lv_iload hx hb dX11_feed_34 (lv_at hl 5 rfl) ?_
    have hPc := hP.sub (ws' := [(h0, .inr (12, [.ref hT, .int (nI (t + 4 + 4 + 4 + 4)), v2, v3, .int lf, v5, v6, v7, v8, v9, v10, .int ar, v12, v13, .int ct, v15])), (hT, .inl (cB, 2000, .inl (lay4 (lay4 (lay4 (lay4 g t x1) (t + 4) x2) (t + 4 + 4) x3) (t + 4 + 4 + 4) x4)))]) [0, 1] rfl
    have hDc := hD.sub (ws' := [(h0, .inr (12, [.ref hT, .int (nI (t + 4 + 4 + 4 + 4)), v2, v3, .int lf, v5, v6, v7, v8, v9, v10, .int ar, v12, v13, .int ct, v15])), (hT, .inl (cB, 2000, .inl (lay4 (lay4 (lay4 (lay4 g t x1) (t + 4) x2) (t + 4 + 4) x3) (t + 4 + 4 + 4) x4)))]) [0, 1] (by decide) rfl
    have hKc := hK.sub (tys' := [(cB, .byte), (cI, .int), (cJ, .long), (cZ, .boolean)]) [0, 1, 2, 3] rfl
    have hFc := va_free (wc := [(h0, .inr (12, [.ref hT, .int (nI (t + 4 + 4 + 4 + 4)), v2, v3, .int lf, v5, v6, v7, v8, v9, v10, .int ar, v12, v13, .int ct, v15])), (hT, .inl (cB, 2000, .inl (lay4 (lay4 (lay4 (lay4 g t x1) (t + 4) x2) (t + 4 + 4) x3) (t + 4 + 4 + 4) x4)))]) hD hS hA [0, 1] rfl
    refine va_callv (va_runV (As := [.int x5]) (rest := []) ⟨hx, hb, hml, hown, hts⟩ (t_X11_takeFour l dC dI H.size cB cI cJ cZ h0 hT (lay4 (lay4 (lay4 (lay4 g t x1) (t + 4) x2) (t + 4 + 4) x3) (t + 4 + 4 + 4) x4) (t + 4 + 4 + 4 + 4) v2 v3 v5 v6 v7 v8 v9 v10 v12 v13 v15 lf ar ct x5 (by omega)) (cwV 1 hts (gd_all (in_V kw_481 kw_483 kw_0 kw_181 kc_X11_takeFour)) rfl rfl rfl (by decide +kernel) ⟨Nat.le_of_ble_eq_true rfl, Nat.le_of_ble_eq_true rfl⟩) ⟨fun a U g mk q => by obtain ⟨q0, q1, qP, qK, qD⟩ := q; exact ⟨q0, q1, qP, va_K.moved (u := U) (U := U.calling g mk a) (Vm.Alike.refl U.vm) qK, qD⟩, va_recv hKc hPc (ci := 12) (q0 := 0) rfl rfl, fun U hU hW => ⟨rfl, by rw [hU], by rw [hU]; exact hPc, va_K.moved hW.alike hKc, hDc.weaken (fun _ _ _ _ => trivial)⟩⟩ rfl rfl hl.1 rfl (lv_room (Nat.le_of_ble_eq_true rfl)) dX11_feed_36 ⟨Nat.le_of_ble_eq_true rfl, Nat.le_of_ble_eq_true rfl⟩) hS (fun q _ h => hFc q h) hFc (fun u t_ H1 locs ht hvm hw hB hz1 hk1 hS => ?_)
    obtain ⟨hP1, hK1, hD1⟩ := hB
    rw [ht] at hP1
    have hK1 := va_K.moved hvm.symm hK1
    obtain ⟨hP, hD⟩ := va_join (wr := []) (w1 := [(h0, .inr (12, [.ref hT, .int (nI (t + 4 + 4 + 4 + 4 + 4)), v2, v3, .int lf, v5, v6, v7, v8, v9, v10, .int ar, v12, v13, .int ct, v15])), (hT, .inl (cB, 2000, .inl (lay4 (lay4 (lay4 (lay4 (lay4 g t x1) (t + 4) x2) (t + 4 + 4) x3) (t + 4 + 4 + 4) x4) (t + 4 + 4 + 4 + 4) x5)))]) hP hD [0, 1] [] rfl rfl (by decide) (by decide) hk1 hFc hP1 hD1
    have hK := (hK.sub (tys' := []) [] rfl).app hK1
    generalize H1 = H at hP hS ⊢
    have hP : va_P (dC, dI) vwCl [(h0, .inr (12, [.ref hT, .int (nI (t + 4 + 4 + 4 + 4 + 4)), v2, v3, .int lf, v5, v6, v7, v8, v9, v10, .int ar, v12, v13, .int ct, v15])), (hT, .inl (cB, 2000, .inl (lay4 (lay4 (lay4 (lay4 (lay4 g t x1) (t + 4) x2) (t + 4 + 4) x3) (t + 4 + 4 + 4) x4) (t + 4 + 4 + 4 + 4) x5)))] H := hP
    have hD : va_D A [(h0, .inr (12, [.ref hT, .int (nI (t + 4 + 4 + 4 + 4 + 4)), v2, v3, .int lf, v5, v6, v7, v8, v9, v10, .int ar, v12, v13, .int ct, v15])), (hT, .inl (cB, 2000, .inl (lay4 (lay4 (lay4 (lay4 (lay4 g t x1) (t + 4) x2) (t + 4 + 4) x3) (t + 4 + 4 + 4) x4) (t + 4 + 4 + 4 + 4) x5)))] := hD
    have hK : va_K (dC, dI) vwCl [(cB, .byte), (cI, .int), (cJ, .long), (cZ, .boolean)] s := hK
    refine lv_aload_n hx hb dX11_feed_39 rfl (lv_at hl 0 rfl) ?_
    refine va_get (D := (dC, dI)) (ci := 12) (v := .int (nI (t + 4 + 4 + 4 + 4 + 4))) (C := RX11) (T := TX11) (N := 16) hx hb hts (fun w h => List.mem_cons_of_mem _ (uG_X11 w h)) hown hK hP 0 rfl rfl 1 (by decide) (hts _ (List.mem_cons_of_mem _ kw_429)) (fun _ h9 => h9) rfl dX11_feed_40 ?_
    have hP9 := hP.sub (ws' := [(h0, .inr (12, [.ref hT, .int (nI (t + 4 + 4 + 4 + 4 + 4)), v2, v3, .int lf, v5, v6, v7, v8, v9, v10, .int ar, v12, v13, .int ct, v15])), (hT, .inl (cB, 2000, .inl (lay4 (lay4 (lay4 (lay4 (lay4 g t x1) (t + 4) x2) (t + 4 + 4) x3) (t + 4 + 4 + 4) x4) (t + 4 + 4 + 4 + 4) x5)))]) [0, 1] rfl
    have hD9 := hD.sub (ws' := [(h0, .inr (12, [.ref hT, .int (nI (t + 4 + 4 + 4 + 4 + 4)), v2, v3, .int lf, v5, v6, v7, v8, v9, v10, .int ar, v12, v13, .int ct, v15])), (hT, .inl (cB, 2000, .inl (lay4 (lay4 (lay4 (lay4 (lay4 g t x1) (t + 4) x2) (t + 4 + 4) x3) (t + 4 + 4 + 4) x4) (t + 4 + 4 + 4 + 4) x5)))]) [0, 1] (by decide) rfl
    have hK9 := hK.sub (tys' := [(cB, .byte), (cI, .int), (cJ, .long), (cZ, .boolean)]) [0, 1, 2, 3] rfl
    exact W.iret (v := (nI (t + 4 + 4 + 4 + 4 + 4))) hx hb hr (fun t_ ht hW => ⟨⟨(nI (t + 4 + 4 + 4 + 4 + 4)), (t + 20, lay20 g t x1 x2 x3 x4 x5), rfl, ⟨(if_pos c_1).symm, (if_pos c_1).symm, (if_pos c_1).symm⟩, by rw [ht]; exact hP9, va_K.moved hW.alike hK9, hD9⟩, hS.F ht⟩) hS.2.2 dX11_feed_43
  · skip
    have c_1 : ¬ (t ≤ 1980) := fun h => c_1 ((nI_leI (a := t) (b := 1980) (by omega) (by omega)).mpr h)
    refine lv_iconst (v := (-1)) hx hb dX11_feed_10 (by decide) ?_
    have hP9 := hP.sub (ws' := [(h0, .inr (12, [.ref hT, .int (nI t), v2, v3, .int lf, v5, v6, v7, v8, v9, v10, .int ar, v12, v13, .int ct, v15])), (hT, .inl (cB, 2000, .inl g))]) [0, 1] rfl
    have hD9 := hD.sub (ws' := [(h0, .inr (12, [.ref hT, .int (nI t), v2, v3, .int lf, v5, v6, v7, v8, v9, v10, .int ar, v12, v13, .int ct, v15])), (hT, .inl (cB, 2000, .inl g))]) [0, 1] (by decide) rfl
    have hK9 := hK.sub (tys' := [(cB, .byte), (cI, .int), (cJ, .long), (cZ, .boolean)]) [0, 1, 2, 3] rfl
    exact W.iret (v := (-1)) hx hb hr (fun t_ ht hW => ⟨⟨(-1), (t, g), rfl, ⟨(if_neg c_1).symm, (if_neg c_1).symm, (if_neg c_1).symm⟩, by rw [ht]; exact hP9, va_K.moved hW.alike hK9, hD9⟩, hS.F ht⟩) hS.2.2 dX11_feed_11

