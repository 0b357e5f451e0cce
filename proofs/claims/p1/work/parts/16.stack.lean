def pv (v : Int64) (b : Int32) : Int64 := if b = 0 then v else 0
def pb (b : Int32) : Int32 := vp_nar .byte (b.toInt8.toInt32)
theorem dX1_push_0 : decode cX1_push 0 = .ok (.aload_n 0, 1) := by decide +kernel
theorem dX1_push_1 : decode cX1_push 1 = .ok (.getfield 62, 3) := by decide +kernel
theorem dX1_push_4 : decode cX1_push 4 = .ok (.aload_n 0, 1) := by decide +kernel
theorem dX1_push_5 : decode cX1_push 5 = .ok (.getfield 46, 3) := by decide +kernel
theorem dX1_push_8 : decode cX1_push 8 = .ok (.arraylength, 1) := by decide +kernel
theorem dX1_push_9 : decode cX1_push 9 = .ok (.if_icmp .ge 54, 3) := by decide +kernel
theorem dX1_push_12 : decode cX1_push 12 = .ok (.aload_n 0, 1) := by decide +kernel
theorem dX1_push_13 : decode cX1_push 13 = .ok (.getfield 62, 3) := by decide +kernel
theorem dX1_push_16 : decode cX1_push 16 = .ok (.aload_n 0, 1) := by decide +kernel
theorem dX1_push_17 : decode cX1_push 17 = .ok (.getfield 49, 3) := by decide +kernel
theorem dX1_push_20 : decode cX1_push 20 = .ok (.arraylength, 1) := by decide +kernel
theorem dX1_push_21 : decode cX1_push 21 = .ok (.if_icmp .ge 42, 3) := by decide +kernel
theorem dX1_push_24 : decode cX1_push 24 = .ok (.aload_n 0, 1) := by decide +kernel
theorem dX1_push_25 : decode cX1_push 25 = .ok (.getfield 46, 3) := by decide +kernel
theorem dX1_push_28 : decode cX1_push 28 = .ok (.aload_n 0, 1) := by decide +kernel
theorem dX1_push_29 : decode cX1_push 29 = .ok (.getfield 62, 3) := by decide +kernel
theorem dX1_push_32 : decode cX1_push 32 = .ok (.iload_n 3, 1) := by decide +kernel
theorem dX1_push_33 : decode cX1_push 33 = .ok (.ifCond .eq 7, 3) := by decide +kernel
theorem dX1_push_36 : decode cX1_push 36 = .ok (.lconst 0, 1) := by decide +kernel
theorem dX1_push_37 : decode cX1_push 37 = .ok (.goto 4, 3) := by decide +kernel
theorem dX1_push_40 : decode cX1_push 40 = .ok (.lload_n 1, 1) := by decide +kernel
theorem dX1_push_41 : decode cX1_push 41 = .ok (.lastore, 1) := by decide +kernel
theorem dX1_push_42 : decode cX1_push 42 = .ok (.aload_n 0, 1) := by decide +kernel
theorem dX1_push_43 : decode cX1_push 43 = .ok (.getfield 49, 3) := by decide +kernel
theorem dX1_push_46 : decode cX1_push 46 = .ok (.aload_n 0, 1) := by decide +kernel
theorem dX1_push_47 : decode cX1_push 47 = .ok (.getfield 62, 3) := by decide +kernel
theorem dX1_push_50 : decode cX1_push 50 = .ok (.iload_n 3, 1) := by decide +kernel
theorem dX1_push_51 : decode cX1_push 51 = .ok (.i2b, 1) := by decide +kernel
theorem dX1_push_52 : decode cX1_push 52 = .ok (.bastore, 1) := by decide +kernel
theorem dX1_push_53 : decode cX1_push 53 = .ok (.aload_n 0, 1) := by decide +kernel
theorem dX1_push_54 : decode cX1_push 54 = .ok (.dup, 1) := by decide +kernel
theorem dX1_push_55 : decode cX1_push 55 = .ok (.getfield 62, 3) := by decide +kernel
theorem dX1_push_58 : decode cX1_push 58 = .ok (.iconst 1, 1) := by decide +kernel
theorem dX1_push_59 : decode cX1_push 59 = .ok (.iadd, 1) := by decide +kernel
theorem dX1_push_60 : decode cX1_push 60 = .ok (.putfield 62, 3) := by decide +kernel
theorem dX1_push_63 : decode cX1_push 63 = .ok (.return_, 1) := by decide +kernel
abbrev cs_t_X1_push (cB cI cJ cZ : ClassId) (h0 hS1 hB1 : Nat) (sz1 : Int32) (k1 k2 k3 k4 k5 k6 k7 k8 k9 : Value) (N : Nat) (sf : Nat → Int64) (bf : Nat → Int32) (tp : Nat) (v : Int64) (b : Int32) : va_W := [(h0, .inr (2, [.int sz1, k1, k2, k3, k4, k5, k6, k7, k8, k9, .ref hS1, .ref hB1, .int (nI tp)])), (hS1, .inl (cJ, N, .inr (.inl sf))), (hB1, .inl (cB, N, .inl bf))]
abbrev pc_t_X1_push (dC : Nat → ClassId) (dI : Nat → Nat → Nat) (sz : Nat) (cB cI cJ cZ : ClassId) (h0 hS1 hB1 : Nat) (sz1 : Int32) (k1 k2 k3 k4 k5 k6 k7 k8 k9 : Value) (N : Nat) (sf : Nat → Int64) (bf : Nat → Int32) (tp : Nat) (v : Int64) (b : Int32) : Array Value → State → Prop := va_Pc [.ref h0, .long v, .int b] (fun U => U.heap.size = sz ∧ va_P (dC, dI) vwCl [(h0, .inr (2, [.int sz1, k1, k2, k3, k4, k5, k6, k7, k8, k9, .ref hS1, .ref hB1, .int (nI tp)])), (hS1, .inl (cJ, N, .inr (.inl sf))), (hB1, .inl (cB, N, .inl bf))] U.heap ∧ va_K (dC, dI) vwCl [(cB, .byte), (cI, .int), (cJ, .long), (cZ, .boolean)] U ∧ va_D (fun _ => True) [(h0, .inr (2, [.int sz1, k1, k2, k3, k4, k5, k6, k7, k8, k9, .ref hS1, .ref hB1, .int (nI tp)])), (hS1, .inl (cJ, N, .inr (.inl sf))), (hB1, .inl (cB, N, .inl bf))])
abbrev qc_t_X1_push (dC : Nat → ClassId) (dI : Nat → Nat → Nat) (cB cI cJ cZ : ClassId) (h0 hS1 hB1 : Nat) (sz1 : Int32) (k1 k2 k3 k4 k5 k6 k7 k8 k9 : Value) (N : Nat) (sf : Nat → Int64) (bf : Nat → Int32) (tp : Nat) (v : Int64) (b : Int32) (A : Nat → Prop) : Array Value → State → Outcome → State → Prop := va_Qv (fun (u : Unit) => match u with | _ => True) (fun (u : Unit) t_ => match u with | _ => va_P (dC, dI) vwCl [(h0, .inr (2, [.int sz1, k1, k2, k3, k4, k5, k6, k7, k8, k9, .ref hS1, .ref hB1, .int (nI (tp + 1))])), (hS1, .inl (cJ, N, .inr (.inl (vp_updL sf tp (pv v b))))), (hB1, .inl (cB, N, .inl (upd bf tp (pb b))))] t_.heap ∧ va_K (dC, dI) vwCl [(cB, .byte), (cI, .int), (cJ, .long), (cZ, .boolean)] t_ ∧ va_D A [(h0, .inr (2, [.int sz1, k1, k2, k3, k4, k5, k6, k7, k8, k9, .ref hS1, .ref hB1, .int (nI (tp + 1))])), (hS1, .inl (cJ, N, .inr (.inl (vp_updL sf tp (pv v b))))), (hB1, .inl (cB, N, .inl (upd bf tp (pb b))))]) A
set_option maxHeartbeats 4000000 in
set_option maxRecDepth 100000 in
theorem t_X1_push (l : Launch) (dC : Nat → ClassId) (dI : Nat → Nat → Nat) (sz : Nat) (cB cI cJ cZ : ClassId) (h0 hS1 hB1 : Nat) (sz1 : Int32) (k1 k2 k3 k4 k5 k6 k7 k8 k9 : Value) (N : Nat) (sf : Nat → Int64) (bf : Nat → Int32) (tp : Nat) (v : Int64) (b : Int32) (hN : N < 1000000) (htp : tp < N) : Met l yX1_push (wsOf yX1_push cX1_push 4 none) ({ frames := 0, cells := 0, slots := 0, locals := 0 }) (pc_t_X1_push dC dI sz cB cI cJ cZ h0 hS1 hB1 sz1 k1 k2 k3 k4 k5 k6 k7 k8 k9 N sf bf tp v b) (qc_t_X1_push dC dI cB cI cJ cZ h0 hS1 hB1 sz1 k1 k2 k3 k4 k5 k6 k7 k8 k9 N sf bf tp v b (va_A (cs_t_X1_push cB cI cJ cZ h0 hS1 hB1 sz1 k1 k2 k3 k4 k5 k6 k7 k8 k9 N sf bf tp v b) sz)) 0 0 (va_A (cs_t_X1_push cB cI cJ cZ h0 hS1 hB1 sz1 k1 k2 k3 k4 k5 k6 k7 k8 k9 N sf bf tp v b) sz) := by
  refine Met.ofW (cc := cX1_push) (maxL := 4) (ret := none) (by decide) rfl ?_
  intro p e s m args below meth c s₁ B hml hv
  obtain ⟨rfl, hsz, hP, hK, hD0⟩ := hv
  have hx := B.exec
  have hb := B.bytes
  have hr := B.returns
  have hts := atoms_spec (ws := (wsOf yX1_push cX1_push 4 none)) B.pre
  have hown : s.vm.findClass RX1 = some m.cls := findClass_of_methodNamed B.named
  have hlocks := B.notSynchronized
  subst hsz
  have hD := hD0.self (sz := s.heap.size)
  generalize hAe : va_A (cs_t_X1_push cB cI cJ cZ h0 hS1 hB1 sz1 k1 k2 k3 k4 k5 k6 k7 k8 k9 N sf bf tp v b) s.heap.size = A at hD ⊢
  have hA : ∀ q : Nat, s.heap.size ≤ q → A q := fun q h => by rw [← hAe]; exact Or.inr h
  have hS : va_S A s.heap s.heap [] := va_S.rf
  have hP : va_P (dC, dI) vwCl [(h0, .inr (2, [.int sz1, k1, k2, k3, k4, k5, k6, k7, k8, k9, .ref hS1, .ref hB1, .int (nI tp)])), (hS1, .inl (cJ, N, .inr (.inl sf))), (hB1, .inl (cB, N, .inl bf))] s.heap := hP
  have hl := lv_entry ([.ref h0, .long v, .int b]) (n := 4) (Nat.le_of_ble_eq_true rfl)
  rw [lg_entry_eq]
  generalize (lg_sl ([.ref h0, .long v, .int b]) ++ List.replicate (4 - (lg_sl ([.ref h0, .long v, .int b])).length) Slot.unset).toArray = ls at hl ⊢
  have hl : lv_has ls 4 [(0, .ref h0), (1, .long v), (3, .int b)] := hl
  refine lv_aload_n hx hb dX1_push_0 rfl (lv_at hl 0 rfl) ?_
  refine va_get (D := (dC, dI)) (ci := 2) (v := .int (nI tp)) (C := RX1) (T := TX1) (N := 13) hx hb hts (fun w h => List.mem_cons_of_mem _ (uG_X1 w h)) hown hK hP 0 rfl rfl 12 (by decide) (hts _ (List.mem_cons_of_mem _ kw_400)) (fun _ h9 => h9) rfl dX1_push_1 ?_
  refine lv_aload_n hx hb dX1_push_4 rfl (lv_at hl 0 rfl) ?_
  refine va_get (D := (dC, dI)) (ci := 2) (v := .ref hS1) (C := RX1) (T := TX1) (N := 13) hx hb hts (fun w h => List.mem_cons_of_mem _ (uG_X1 w h)) hown hK hP 0 rfl rfl 10 (by decide) (hts _ (List.mem_cons_of_mem _ kw_398)) (fun _ h9 => h9) rfl dX1_push_5 ?_
  refine va_alen (v := nI N) hx hb hK hP 1 2 rfl rfl rfl dX1_push_8 ?_
  refine lv_icmp_ge (tgt := 63) hx hb dX1_push_9 (by decide) (fun c_1 => ?_) (fun c_1 => ?_)
  · skip
    have c_1 : N ≤ tp := (nI_leI (a := N) (b := tp) (by omega) (by omega)).mp c_1
    exact absurd c_1 (by omega)
  · skip
    have c_1 : ¬ (N ≤ tp) := fun h => c_1 ((nI_leI (a := N) (b := tp) (by omega) (by omega)).mpr h)
    refine lv_aload_n hx hb dX1_push_12 rfl (lv_at hl 0 rfl) ?_
    refine va_get (D := (dC, dI)) (ci := 2) (v := .int (nI tp)) (C := RX1) (T := TX1) (N := 13) hx hb hts (fun w h => List.mem_cons_of_mem _ (uG_X1 w h)) hown hK hP 0 rfl rfl 12 (by decide) (hts _ (List.mem_cons_of_mem _ kw_400)) (fun _ h9 => h9) rfl dX1_push_13 ?_
    refine lv_aload_n hx hb dX1_push_16 rfl (lv_at hl 0 rfl) ?_
    refine va_get (D := (dC, dI)) (ci := 2) (v := .ref hB1) (C := RX1) (T := TX1) (N := 13) hx hb hts (fun w h => List.mem_cons_of_mem _ (uG_X1 w h)) hown hK hP 0 rfl rfl 11 (by decide) (hts _ (List.mem_cons_of_mem _ kw_399)) (fun _ h9 => h9) rfl dX1_push_17 ?_
    refine va_alen (v := nI N) hx hb hK hP 2 0 rfl rfl rfl dX1_push_20 ?_
    refine lv_icmp_ge (tgt := 63) hx hb dX1_push_21 (by decide) (fun c_2 => ?_) (fun c_2 => ?_)
    · skip
      have c_2 : N ≤ tp := (nI_leI (a := N) (b := tp) (by omega) (by omega)).mp c_2
      exact absurd c_2 (by omega)
    · skip
      have c_2 : ¬ (N ≤ tp) := fun h => c_2 ((nI_leI (a := N) (b := tp) (by omega) (by omega)).mpr h)
      refine lv_aload_n hx hb dX1_push_24 rfl (lv_at hl 0 rfl) ?_
      refine va_get (D := (dC, dI)) (ci := 2) (v := .ref hS1) (C := RX1) (T := TX1) (N := 13) hx hb hts (fun w h => List.mem_cons_of_mem _ (uG_X1 w h)) hown hK hP 0 rfl rfl 10 (by decide) (hts _ (List.mem_cons_of_mem _ kw_398)) (fun _ h9 => h9) rfl dX1_push_25 ?_
      refine lv_aload_n hx hb dX1_push_28 rfl (lv_at hl 0 rfl) ?_
      refine va_get (D := (dC, dI)) (ci := 2) (v := .int (nI tp)) (C := RX1) (T := TX1) (N := 13) hx hb hts (fun w h => List.mem_cons_of_mem _ (uG_X1 w h)) hown hK hP 0 rfl rfl 12 (by decide) (hts _ (List.mem_cons_of_mem _ kw_400)) (fun _ h9 => h9) rfl dX1_push_29 ?_
      have mg_3 : ∀ (H : Heap) (locs : List Loc), va_P (dC, dI) vwCl [(h0, .inr (2, [.int sz1, k1, k2, k3, k4, k5, k6, k7, k8, k9, .ref hS1, .ref hB1, .int (nI tp)])), (hS1, .inl (cJ, N, .inr (.inl sf))), (hB1, .inl (cB, N, .inl bf))] H → va_D A [(h0, .inr (2, [.int sz1, k1, k2, k3, k4, k5, k6, k7, k8, k9, .ref hS1, .ref hB1, .int (nI tp)])), (hS1, .inl (cJ, N, .inr (.inl sf))), (hB1, .inl (cB, N, .inl bf))] → va_S A s.heap H locs → W p l e (headSpec (wsOf yX1_push cX1_push 4 none) ({ frames := 0, cells := 0, slots := 0, locals := 0 })).room s m ([.ref h0, .long v, .int b] : List Value).toArray below meth c H locs 0 0 (MQ below (qc_t_X1_push dC dI cB cI cJ cZ h0 hS1 hB1 sz1 k1 k2 k3 k4 k5 k6 k7 k8 k9 N sf bf tp v b A) ([.ref h0, .long v, .int b] : List Value).toArray s 0 0 A) (F0 m 41 ls [.long (pv v b), .int (nI tp), .ref hS1]) := by
        intro H locs hP hD hS
        refine va_last hx hb hK hP hD hS 1 2 rfl rfl (i := (nI tp)) (x := (pv v b)) (vp_in_nI (n := tp) (N := N) (by omega) (by omega)) dX1_push_41 (fun H locs hP hD hS => ?_)
        rw [show (nI tp).toNatClampNeg = tp from nI_clamp (n := tp) (by omega)] at hP hD
        have hP : va_P (dC, dI) vwCl [(h0, .inr (2, [.int sz1, k1, k2, k3, k4, k5, k6, k7, k8, k9, .ref hS1, .ref hB1, .int (nI tp)])), (hS1, .inl (cJ, N, .inr (.inl (vp_updL sf tp (pv v b))))), (hB1, .inl (cB, N, .inl bf))] H := hP
        have hD : va_D A [(h0, .inr (2, [.int sz1, k1, k2, k3, k4, k5, k6, k7, k8, k9, .ref hS1, .ref hB1, .int (nI tp)])), (hS1, .inl (cJ, N, .inr (.inl (vp_updL sf tp (pv v b))))), (hB1, .inl (cB, N, .inl bf))] := hD
        refine lv_aload_n hx hb dX1_push_42 rfl (lv_at hl 0 rfl) ?_
        refine va_get (D := (dC, dI)) (ci := 2) (v := .ref hB1) (C := RX1) (T := TX1) (N := 13) hx hb hts (fun w h => List.mem_cons_of_mem _ (uG_X1 w h)) hown hK hP 0 rfl rfl 11 (by decide) (hts _ (List.mem_cons_of_mem _ kw_399)) (fun _ h9 => h9) rfl dX1_push_43 ?_
        refine lv_aload_n hx hb dX1_push_46 rfl (lv_at hl 0 rfl) ?_
        refine va_get (D := (dC, dI)) (ci := 2) (v := .int (nI tp)) (C := RX1) (T := TX1) (N := 13) hx hb hts (fun w h => List.mem_cons_of_mem _ (uG_X1 w h)) hown hK hP 0 rfl rfl 12 (by decide) (hts _ (List.mem_cons_of_mem _ kw_400)) (fun _ h9 => h9) rfl dX1_push_47 ?_
        refine lv_iload_n hx hb dX1_push_50 rfl (lv_at hl 2 rfl) ?_
        refine lv_i2b hx hb dX1_push_51 rfl ?_
        refine va_bast hx hb hK hP hD hS 2 0 rfl rfl (i := (nI tp)) (x := (b.toInt8.toInt32)) (vp_in_nI (n := tp) (N := N) (by omega) (by omega)) dX1_push_52 (fun H locs hP hD hS => ?_)
        rw [show (nI tp).toNatClampNeg = tp from nI_clamp (n := tp) (by omega)] at hP hD
        have hP : va_P (dC, dI) vwCl [(h0, .inr (2, [.int sz1, k1, k2, k3, k4, k5, k6, k7, k8, k9, .ref hS1, .ref hB1, .int (nI tp)])), (hS1, .inl (cJ, N, .inr (.inl (vp_updL sf tp (pv v b))))), (hB1, .inl (cB, N, .inl (upd bf tp (vp_nar .byte (b.toInt8.toInt32)))))] H := hP
        have hD : va_D A [(h0, .inr (2, [.int sz1, k1, k2, k3, k4, k5, k6, k7, k8, k9, .ref hS1, .ref hB1, .int (nI tp)])), (hS1, .inl (cJ, N, .inr (.inl (vp_updL sf tp (pv v b))))), (hB1, .inl (cB, N, .inl (upd bf tp (vp_nar .byte (b.toInt8.toInt32)))))] := hD
        refine lv_aload_n hx hb dX1_push_53 rfl (lv_at hl 0 rfl) ?_
        refine lv_dup hx hb dX1_push_54 rfl ?_
        refine va_get (D := (dC, dI)) (ci := 2) (v := .int (nI tp)) (C := RX1) (T := TX1) (N := 13) hx hb hts (fun w h => List.mem_cons_of_mem _ (uG_X1 w h)) hown hK hP 0 rfl rfl 12 (by decide) (hts _ (List.mem_cons_of_mem _ kw_400)) (fun _ h9 => h9) rfl dX1_push_55 ?_
        refine lv_iconst (v := 1) hx hb dX1_push_58 (by decide) ?_
        refine lv_iadd hx hb dX1_push_59 ?_
        refine lv_topi (fun x_4 ex_4 => ?_)
        have ex_4 : x_4 = nI (tp + 1) := ex_4.trans (nI_add tp 1)
        subst ex_4
        refine va_put (D := (dC, dI)) (ci := 2) (v := .int (nI (tp + 1))) (ty := .int) (C := RX1) (T := TX1) (N := 13) hx hb hts (fun w h => List.mem_cons_of_mem _ (uG_X1 w h)) tyX1 tyX1_ok nmX1 hown hK hP hD hS 0 rfl rfl 12 (by decide) (hts _ (List.mem_cons_of_mem _ kw_400)) (fun _ h9 => h9) rfl (by decide +kernel) rfl rfl (Nat.le_of_ble_eq_true rfl) dX1_push_60 (fun H locs hP hD hS => ?_)
        have hP : va_P (dC, dI) vwCl [(h0, .inr (2, [.int sz1, k1, k2, k3, k4, k5, k6, k7, k8, k9, .ref hS1, .ref hB1, .int (nI (tp + 1))])), (hS1, .inl (cJ, N, .inr (.inl (vp_updL sf tp (pv v b))))), (hB1, .inl (cB, N, .inl (upd bf tp (vp_nar .byte (b.toInt8.toInt32)))))] H := hP
        have hD : va_D A [(h0, .inr (2, [.int sz1, k1, k2, k3, k4, k5, k6, k7, k8, k9, .ref hS1, .ref hB1, .int (nI (tp + 1))])), (hS1, .inl (cJ, N, .inr (.inl (vp_updL sf tp (pv v b))))), (hB1, .inl (cB, N, .inl (upd bf tp (vp_nar .byte (b.toInt8.toInt32)))))] := hD
        have hP9 := hP.sub (ws' := [(h0, .inr (2, [.int sz1, k1, k2, k3, k4, k5, k6, k7, k8, k9, .ref hS1, .ref hB1, .int (nI (tp + 1))])), (hS1, .inl (cJ, N, .inr (.inl (vp_updL sf tp (pv v b))))), (hB1, .inl (cB, N, .inl (upd bf tp (vp_nar .byte (b.toInt8.toInt32)))))]) [0, 1, 2] rfl
        have hD9 := hD.sub (ws' := [(h0, .inr (2, [.int sz1, k1, k2, k3, k4, k5, k6, k7, k8, k9, .ref hS1, .ref hB1, .int (nI (tp + 1))])), (hS1, .inl (cJ, N, .inr (.inl (vp_updL sf tp (pv v b))))), (hB1, .inl (cB, N, .inl (upd bf tp (vp_nar .byte (b.toInt8.toInt32)))))]) [0, 1, 2] (by decide) rfl
        have hK9 := hK.sub (tys' := [(cB, .byte), (cI, .int), (cJ, .long), (cZ, .boolean)]) [0, 1, 2, 3] rfl
        exact W.vret hx hb hr (fun t_ ht hW => ⟨⟨(), rfl, trivial, by rw [ht]; exact hP9, va_K.moved hW.alike hK9, hD9⟩, hS.F ht⟩) hS.2.2 dX1_push_63
      refine lv_iload_n hx hb dX1_push_32 rfl (lv_at hl 2 rfl) ?_
      refine lv_if_eq (tgt := 40) hx hb dX1_push_33 (by decide) (fun c_5 => ?_) (fun c_5 => ?_)
      · skip
        refine lv_lload_n hx hb dX1_push_40 rfl (lv_at hl 1 rfl) ?_
        exact W.eq (by unfold pv; rw [if_pos c_5]) (mg_3 _ _ hP hD hS)
      · skip
        refine lv_lconst (v := 0) hx hb dX1_push_36 (by decide) ?_
        refine lv_goto (tgt := 41) hx hb dX1_push_37 (by decide) ?_
        exact W.eq (by unfold pv; rw [if_neg c_5]) (mg_3 _ _ hP hD hS)
theorem dX1_resultValue_0 : decode cX1_resultValue 0 = .ok (.aload_n 0, 1) := by decide +kernel
theorem dX1_resultValue_1 : decode cX1_resultValue 1 = .ok (.getfield 62, 3) := by decide +kernel
theorem dX1_resultValue_4 : decode cX1_resultValue 4 = .ok (.iconst 1, 1) := by decide +kernel
theorem dX1_resultValue_5 : decode cX1_resultValue 5 = .ok (.if_icmp .ne 12, 3) := by decide +kernel
theorem dX1_resultValue_8 : decode cX1_resultValue 8 = .ok (.aload_n 0, 1) := by decide +kernel
theorem dX1_resultValue_9 : decode cX1_resultValue 9 = .ok (.getfield 46, 3) := by decide +kernel
theorem dX1_resultValue_12 : decode cX1_resultValue 12 = .ok (.iconst 0, 1) := by decide +kernel
theorem dX1_resultValue_13 : decode cX1_resultValue 13 = .ok (.laload, 1) := by decide +kernel
theorem dX1_resultValue_14 : decode cX1_resultValue 14 = .ok (.goto 4, 3) := by decide +kernel
theorem dX1_resultValue_18 : decode cX1_resultValue 18 = .ok (.lreturn, 1) := by decide +kernel
abbrev cs_t_X1_resultValue (cB cI cJ cZ : ClassId) (h0 hS1 hB1 : Nat) (sz1 : Int32) (k1 k2 k3 k4 k5 k6 k7 k8 k9 : Value) (N : Nat) (sf : Nat → Int64) (bf : Nat → Int32) (tp : Nat) : va_W := [(h0, .inr (2, [.int sz1, k1, k2, k3, k4, k5, k6, k7, k8, k9, .ref hS1, .ref hB1, .int (nI tp)])), (hS1, .inl (cJ, N, .inr (.inl sf))), (hB1, .inl (cB, N, .inl bf))]
abbrev pc_t_X1_resultValue (dC : Nat → ClassId) (dI : Nat → Nat → Nat) (sz : Nat) (cB cI cJ cZ : ClassId) (h0 hS1 hB1 : Nat) (sz1 : Int32) (k1 k2 k3 k4 k5 k6 k7 k8 k9 : Value) (N : Nat) (sf : Nat → Int64) (bf : Nat → Int32) (tp : Nat) : Array Value → State → Prop := va_Pc [.ref h0] (fun U => U.heap.size = sz ∧ va_P (dC, dI) vwCl [(h0, .inr (2, [.int sz1, k1, k2, k3, k4, k5, k6, k7, k8, k9, .ref hS1, .ref hB1, .int (nI tp)])), (hS1, .inl (cJ, N, .inr (.inl sf))), (hB1, .inl (cB, N, .inl bf))] U.heap ∧ va_K (dC, dI) vwCl [(cB, .byte), (cI, .int), (cJ, .long), (cZ, .boolean)] U ∧ va_D (fun _ => True) [(h0, .inr (2, [.int sz1, k1, k2, k3, k4, k5, k6, k7, k8, k9, .ref hS1, .ref hB1, .int (nI tp)])), (hS1, .inl (cJ, N, .inr (.inl sf))), (hB1, .inl (cB, N, .inl bf))])
abbrev qc_t_X1_resultValue (dC : Nat → ClassId) (dI : Nat → Nat → Nat) (cB cI cJ cZ : ClassId) (h0 hS1 hB1 : Nat) (sz1 : Int32) (k1 k2 k3 k4 k5 k6 k7 k8 k9 : Value) (N : Nat) (sf : Nat → Int64) (bf : Nat → Int32) (tp : Nat) (A : Nat → Prop) : Array Value → State → Outcome → State → Prop := va_Ql (fun (r : Int64) (u : Unit) => match u with | _ => r = sf 0) (fun (u : Unit) t_ => match u with | _ => va_P (dC, dI) vwCl [(h0, .inr (2, [.int sz1, k1, k2, k3, k4, k5, k6, k7, k8, k9, .ref hS1, .ref hB1, .int (nI tp)])), (hS1, .inl (cJ, N, .inr (.inl sf))), (hB1, .inl (cB, N, .inl bf))] t_.heap ∧ va_K (dC, dI) vwCl [(cB, .byte), (cI, .int), (cJ, .long), (cZ, .boolean)] t_ ∧ va_D A [(h0, .inr (2, [.int sz1, k1, k2, k3, k4, k5, k6, k7, k8, k9, .ref hS1, .ref hB1, .int (nI tp)])), (hS1, .inl (cJ, N, .inr (.inl sf))), (hB1, .inl (cB, N, .inl bf))]) A
set_option maxHeartbeats 4000000 in
set_option maxRecDepth 100000 in
theorem t_X1_resultValue (l : Launch) (dC : Nat → ClassId) (dI : Nat → Nat → Nat) (sz : Nat) (cB cI cJ cZ : ClassId) (h0 hS1 hB1 : Nat) (sz1 : Int32) (k1 k2 k3 k4 k5 k6 k7 k8 k9 : Value) (N : Nat) (sf : Nat → Int64) (bf : Nat → Int32) (tp : Nat) (hN : N < 1000000) (htp : tp = 1) (hN0 : 0 < N) : Met l yX1_resultValue (wsOf yX1_resultValue cX1_resultValue 1 (some .long)) ({ frames := 0, cells := 0, slots := 0, locals := 0 }) (pc_t_X1_resultValue dC dI sz cB cI cJ cZ h0 hS1 hB1 sz1 k1 k2 k3 k4 k5 k6 k7 k8 k9 N sf bf tp) (qc_t_X1_resultValue dC dI cB cI cJ cZ h0 hS1 hB1 sz1 k1 k2 k3 k4 k5 k6 k7 k8 k9 N sf bf tp (va_A (cs_t_X1_resultValue cB cI cJ cZ h0 hS1 hB1 sz1 k1 k2 k3 k4 k5 k6 k7 k8 k9 N sf bf tp) sz)) 0 0 (va_A (cs_t_X1_resultValue cB cI cJ cZ h0 hS1 hB1 sz1 k1 k2 k3 k4 k5 k6 k7 k8 k9 N sf bf tp) sz) := by
  refine Met.ofW (cc := cX1_resultValue) (maxL := 1) (ret := (some .long)) (by decide) rfl ?_
  intro p e s m args below meth c s₁ B hml hv
  obtain ⟨rfl, hsz, hP, hK, hD0⟩ := hv
  have hx := B.exec
  have hb := B.bytes
  have hr := B.returns
  have hts := atoms_spec (ws := (wsOf yX1_resultValue cX1_resultValue 1 (some .long))) B.pre
  have hown : s.vm.findClass RX1 = some m.cls := findClass_of_methodNamed B.named
  have hlocks := B.notSynchronized
  subst hsz
  have hD := hD0.self (sz := s.heap.size)
  generalize hAe : va_A (cs_t_X1_resultValue cB cI cJ cZ h0 hS1 hB1 sz1 k1 k2 k3 k4 k5 k6 k7 k8 k9 N sf bf tp) s.heap.size = A at hD ⊢
  have hA : ∀ q : Nat, s.heap.size ≤ q → A q := fun q h => by rw [← hAe]; exact Or.inr h
  have hS : va_S A s.heap s.heap [] := va_S.rf
  have hP : va_P (dC, dI) vwCl [(h0, .inr (2, [.int sz1, k1, k2, k3, k4, k5, k6, k7, k8, k9, .ref hS1, .ref hB1, .int (nI tp)])), (hS1, .inl (cJ, N, .inr (.inl sf))), (hB1, .inl (cB, N, .inl bf))] s.heap := hP
  have hl := lv_entry ([.ref h0]) (n := 1) (Nat.le_of_ble_eq_true rfl)
  rw [lg_entry_eq]
  generalize (lg_sl ([.ref h0]) ++ List.replicate (1 - (lg_sl ([.ref h0])).length) Slot.unset).toArray = ls at hl ⊢
  have hl : lv_has ls 1 [(0, .ref h0)] := hl
  refine lv_aload_n hx hb dX1_resultValue_0 rfl (lv_at hl 0 rfl) ?_
  refine va_get (D := (dC, dI)) (ci := 2) (v := .int (nI tp)) (C := RX1) (T := TX1) (N := 13) hx hb hts (fun w h => List.mem_cons_of_mem _ (uG_X1 w h)) hown hK hP 0 rfl rfl 12 (by decide) (hts _ (List.mem_cons_of_mem _ kw_400)) (fun _ h9 => h9) rfl dX1_resultValue_1 ?_
  refine lv_iconst (v := 1) hx hb dX1_resultValue_4 (by decide) ?_
  refine lv_icmp_ne (tgt := 17) hx hb dX1_resultValue_5 (by decide) (fun c_1 => ?_) (fun c_1 => ?_)
  · skip
    have c_1 : ¬ (tp = 1) := fun h => c_1 ((nI_eq (a := tp) (b := 1) (by omega) (by omega)).mpr h)
    exact absurd htp c_1
  · skip
    have c_1 : tp = 1 := (nI_eq (a := tp) (b := 1) (by omega) (by omega)).mp c_1
    refine lv_aload_n hx hb dX1_resultValue_8 rfl (lv_at hl 0 rfl) ?_
    refine va_get (D := (dC, dI)) (ci := 2) (v := .ref hS1) (C := RX1) (T := TX1) (N := 13) hx hb hts (fun w h => List.mem_cons_of_mem _ (uG_X1 w h)) hown hK hP 0 rfl rfl 10 (by decide) (hts _ (List.mem_cons_of_mem _ kw_398)) (fun _ h9 => h9) rfl dX1_resultValue_9 ?_
    refine lv_iconst (v := 0) hx hb dX1_resultValue_12 (by decide) ?_
    refine va_lald hx hb hK hP 1 2 rfl rfl (i := 0) (vp_in_nI (n := 0) (N := N) (by omega) (by omega)) dX1_resultValue_13 ?_
    refine lv_topl (fun x_2 ex_2 => ?_)
    have ex_2 : x_2 = sf 0 := ex_2.trans (congrArg sf (nI_clamp (n := 0) (by omega)))
    subst ex_2
    refine lv_goto (tgt := 18) hx hb dX1_resultValue_14 (by decide) ?_
    have hP9 := hP.sub (ws' := [(h0, .inr (2, [.int sz1, k1, k2, k3, k4, k5, k6, k7, k8, k9, .ref hS1, .ref hB1, .int (nI tp)])), (hS1, .inl (cJ, N, .inr (.inl sf))), (hB1, .inl (cB, N, .inl bf))]) [0, 1, 2] rfl
    have hD9 := hD.sub (ws' := [(h0, .inr (2, [.int sz1, k1, k2, k3, k4, k5, k6, k7, k8, k9, .ref hS1, .ref hB1, .int (nI tp)])), (hS1, .inl (cJ, N, .inr (.inl sf))), (hB1, .inl (cB, N, .inl bf))]) [0, 1, 2] (by decide) rfl
    have hK9 := hK.sub (tys' := [(cB, .byte), (cI, .int), (cJ, .long), (cZ, .boolean)]) [0, 1, 2, 3] rfl
    exact W.lret (v := (sf 0)) hx hb hr (fun t_ ht hW => ⟨⟨(sf 0), (), rfl, rfl, by rw [ht]; exact hP9, va_K.moved hW.alike hK9, hD9⟩, hS.F ht⟩) hS.2.2 dX1_resultValue_18
theorem dX1_resultBlank_0 : decode cX1_resultBlank 0 = .ok (.aload_n 0, 1) := by decide +kernel
theorem dX1_resultBlank_1 : decode cX1_resultBlank 1 = .ok (.getfield 62, 3) := by decide +kernel
theorem dX1_resultBlank_4 : decode cX1_resultBlank 4 = .ok (.iconst 1, 1) := by decide +kernel
theorem dX1_resultBlank_5 : decode cX1_resultBlank 5 = .ok (.if_icmp .ne 12, 3) := by decide +kernel
theorem dX1_resultBlank_8 : decode cX1_resultBlank 8 = .ok (.aload_n 0, 1) := by decide +kernel
theorem dX1_resultBlank_9 : decode cX1_resultBlank 9 = .ok (.getfield 49, 3) := by decide +kernel
theorem dX1_resultBlank_12 : decode cX1_resultBlank 12 = .ok (.iconst 0, 1) := by decide +kernel
theorem dX1_resultBlank_13 : decode cX1_resultBlank 13 = .ok (.baload, 1) := by decide +kernel
theorem dX1_resultBlank_14 : decode cX1_resultBlank 14 = .ok (.goto 4, 3) := by decide +kernel
theorem dX1_resultBlank_18 : decode cX1_resultBlank 18 = .ok (.ireturn, 1) := by decide +kernel
abbrev cs_t_X1_resultBlank (cB cI cJ cZ : ClassId) (h0 hS1 hB1 : Nat) (sz1 : Int32) (k1 k2 k3 k4 k5 k6 k7 k8 k9 : Value) (N : Nat) (sf : Nat → Int64) (bf : Nat → Int32) (tp : Nat) : va_W := [(h0, .inr (2, [.int sz1, k1, k2, k3, k4, k5, k6, k7, k8, k9, .ref hS1, .ref hB1, .int (nI tp)])), (hS1, .inl (cJ, N, .inr (.inl sf))), (hB1, .inl (cB, N, .inl bf))]
abbrev pc_t_X1_resultBlank (dC : Nat → ClassId) (dI : Nat → Nat → Nat) (sz : Nat) (cB cI cJ cZ : ClassId) (h0 hS1 hB1 : Nat) (sz1 : Int32) (k1 k2 k3 k4 k5 k6 k7 k8 k9 : Value) (N : Nat) (sf : Nat → Int64) (bf : Nat → Int32) (tp : Nat) : Array Value → State → Prop := va_Pc [.ref h0] (fun U => U.heap.size = sz ∧ va_P (dC, dI) vwCl [(h0, .inr (2, [.int sz1, k1, k2, k3, k4, k5, k6, k7, k8, k9, .ref hS1, .ref hB1, .int (nI tp)])), (hS1, .inl (cJ, N, .inr (.inl sf))), (hB1, .inl (cB, N, .inl bf))] U.heap ∧ va_K (dC, dI) vwCl [(cB, .byte), (cI, .int), (cJ, .long), (cZ, .boolean)] U ∧ va_D (fun _ => True) [(h0, .inr (2, [.int sz1, k1, k2, k3, k4, k5, k6, k7, k8, k9, .ref hS1, .ref hB1, .int (nI tp)])), (hS1, .inl (cJ, N, .inr (.inl sf))), (hB1, .inl (cB, N, .inl bf))])
abbrev qc_t_X1_resultBlank (dC : Nat → ClassId) (dI : Nat → Nat → Nat) (cB cI cJ cZ : ClassId) (h0 hS1 hB1 : Nat) (sz1 : Int32) (k1 k2 k3 k4 k5 k6 k7 k8 k9 : Value) (N : Nat) (sf : Nat → Int64) (bf : Nat → Int32) (tp : Nat) (A : Nat → Prop) : Array Value → State → Outcome → State → Prop := va_Qi (fun (r : Int32) (u : Unit) => match u with | _ => r = bf 0) (fun (u : Unit) t_ => match u with | _ => va_P (dC, dI) vwCl [(h0, .inr (2, [.int sz1, k1, k2, k3, k4, k5, k6, k7, k8, k9, .ref hS1, .ref hB1, .int (nI tp)])), (hS1, .inl (cJ, N, .inr (.inl sf))), (hB1, .inl (cB, N, .inl bf))] t_.heap ∧ va_K (dC, dI) vwCl [(cB, .byte), (cI, .int), (cJ, .long), (cZ, .boolean)] t_ ∧ va_D A [(h0, .inr (2, [.int sz1, k1, k2, k3, k4, k5, k6, k7, k8, k9, .ref hS1, .ref hB1, .int (nI tp)])), (hS1, .inl (cJ, N, .inr (.inl sf))), (hB1, .inl (cB, N, .inl bf))]) A
set_option maxHeartbeats 4000000 in
set_option maxRecDepth 100000 in
theorem t_X1_resultBlank (l : Launch) (dC : Nat → ClassId) (dI : Nat → Nat → Nat) (sz : Nat) (cB cI cJ cZ : ClassId) (h0 hS1 hB1 : Nat) (sz1 : Int32) (k1 k2 k3 k4 k5 k6 k7 k8 k9 : Value) (N : Nat) (sf : Nat → Int64) (bf : Nat → Int32) (tp : Nat) (hN : N < 1000000) (htp : tp = 1) (hN0 : 0 < N) (hb0 : (bf 0).toInt8.toInt32 = bf 0) : Met l yX1_resultBlank (wsOf yX1_resultBlank cX1_resultBlank 1 (some .byte)) ({ frames := 0, cells := 0, slots := 0, locals := 0 }) (pc_t_X1_resultBlank dC dI sz cB cI cJ cZ h0 hS1 hB1 sz1 k1 k2 k3 k4 k5 k6 k7 k8 k9 N sf bf tp) (qc_t_X1_resultBlank dC dI cB cI cJ cZ h0 hS1 hB1 sz1 k1 k2 k3 k4 k5 k6 k7 k8 k9 N sf bf tp (va_A (cs_t_X1_resultBlank cB cI cJ cZ h0 hS1 hB1 sz1 k1 k2 k3 k4 k5 k6 k7 k8 k9 N sf bf tp) sz)) 0 0 (va_A (cs_t_X1_resultBlank cB cI cJ cZ h0 hS1 hB1 sz1 k1 k2 k3 k4 k5 k6 k7 k8 k9 N sf bf tp) sz) := by
  refine Met.ofW (cc := cX1_resultBlank) (maxL := 1) (ret := (some .byte)) (by decide) rfl ?_
  intro p e s m args below meth c s₁ B hml hv
  obtain ⟨rfl, hsz, hP, hK, hD0⟩ := hv
  have hx := B.exec
  have hb := B.bytes
  have hr := B.returns
  have hts := atoms_spec (ws := (wsOf yX1_resultBlank cX1_resultBlank 1 (some .byte))) B.pre
  have hown : s.vm.findClass RX1 = some m.cls := findClass_of_methodNamed B.named
  have hlocks := B.notSynchronized
  subst hsz
  have hD := hD0.self (sz := s.heap.size)
  generalize hAe : va_A (cs_t_X1_resultBlank cB cI cJ cZ h0 hS1 hB1 sz1 k1 k2 k3 k4 k5 k6 k7 k8 k9 N sf bf tp) s.heap.size = A at hD ⊢
  have hA : ∀ q : Nat, s.heap.size ≤ q → A q := fun q h => by rw [← hAe]; exact Or.inr h
  have hS : va_S A s.heap s.heap [] := va_S.rf
  have hP : va_P (dC, dI) vwCl [(h0, .inr (2, [.int sz1, k1, k2, k3, k4, k5, k6, k7, k8, k9, .ref hS1, .ref hB1, .int (nI tp)])), (hS1, .inl (cJ, N, .inr (.inl sf))), (hB1, .inl (cB, N, .inl bf))] s.heap := hP
  have hl := lv_entry ([.ref h0]) (n := 1) (Nat.le_of_ble_eq_true rfl)
  rw [lg_entry_eq]
  generalize (lg_sl ([.ref h0]) ++ List.replicate (1 - (lg_sl ([.ref h0])).length) Slot.unset).toArray = ls at hl ⊢
  have hl : lv_has ls 1 [(0, .ref h0)] := hl
  refine lv_aload_n hx hb dX1_resultBlank_0 rfl (lv_at hl 0 rfl) ?_
  refine va_get (D := (dC, dI)) (ci := 2) (v := .int (nI tp)) (C := RX1) (T := TX1) (N := 13) hx hb hts (fun w h => List.mem_cons_of_mem _ (uG_X1 w h)) hown hK hP 0 rfl rfl 12 (by decide) (hts _ (List.mem_cons_of_mem _ kw_400)) (fun _ h9 => h9) rfl dX1_resultBlank_1 ?_
  refine lv_iconst (v := 1) hx hb dX1_resultBlank_4 (by decide) ?_
  refine lv_icmp_ne (tgt := 17) hx hb dX1_resultBlank_5 (by decide) (fun c_1 => ?_) (fun c_1 => ?_)
  · skip
    have c_1 : ¬ (tp = 1) := fun h => c_1 ((nI_eq (a := tp) (b := 1) (by omega) (by omega)).mpr h)
    exact absurd htp c_1
  · skip
    have c_1 : tp = 1 := (nI_eq (a := tp) (b := 1) (by omega) (by omega)).mp c_1
    refine lv_aload_n hx hb dX1_resultBlank_8 rfl (lv_at hl 0 rfl) ?_
    refine va_get (D := (dC, dI)) (ci := 2) (v := .ref hB1) (C := RX1) (T := TX1) (N := 13) hx hb hts (fun w h => List.mem_cons_of_mem _ (uG_X1 w h)) hown hK hP 0 rfl rfl 11 (by decide) (hts _ (List.mem_cons_of_mem _ kw_399)) (fun _ h9 => h9) rfl dX1_resultBlank_9 ?_
    refine lv_iconst (v := 0) hx hb dX1_resultBlank_12 (by decide) ?_
    refine va_bald hx hb hK hP 2 0 rfl rfl (i := 0) (vp_in_nI (n := 0) (N := N) (by omega) (by omega)) dX1_resultBlank_13 ?_
    refine lv_topi (fun x_2 ex_2 => ?_)
    have ex_2 : x_2 = bf 0 := ex_2.trans (congrArg bf (nI_clamp (n := 0) (by omega)))
    subst ex_2
    refine lv_goto (tgt := 18) hx hb dX1_resultBlank_14 (by decide) ?_
    have hP9 := hP.sub (ws' := [(h0, .inr (2, [.int sz1, k1, k2, k3, k4, k5, k6, k7, k8, k9, .ref hS1, .ref hB1, .int (nI tp)])), (hS1, .inl (cJ, N, .inr (.inl sf))), (hB1, .inl (cB, N, .inl bf))]) [0, 1, 2] rfl
    have hD9 := hD.sub (ws' := [(h0, .inr (2, [.int sz1, k1, k2, k3, k4, k5, k6, k7, k8, k9, .ref hS1, .ref hB1, .int (nI tp)])), (hS1, .inl (cJ, N, .inr (.inl sf))), (hB1, .inl (cB, N, .inl bf))]) [0, 1, 2] (by decide) rfl
    have hK9 := hK.sub (tys' := [(cB, .byte), (cI, .int), (cJ, .long), (cZ, .boolean)]) [0, 1, 2, 3] rfl
    exact W.zret (v := (bf 0)) hx hb hr (by show Value.int _ = Value.int _; rw [hb0]) (fun t_ ht hW => ⟨⟨(bf 0), (), rfl, rfl, by rw [ht]; exact hP9, va_K.moved hW.alike hK9, hD9⟩, hS.F ht⟩) hS.2.2 dX1_resultBlank_18

