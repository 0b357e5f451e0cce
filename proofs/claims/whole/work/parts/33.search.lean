/-! case, in, / and % -/
def chF (sf : Nat → Int64) (bf : Nat → Int32) (tp : Nat) : Nat := if bf tp = 0 then (if sf tp = 0 then tp + 2 else tp + 1) else tp + 2
theorem chF_le (sf : Nat → Int64) (bf : Nat → Int32) (tp : Nat) : chF sf bf tp ≤ tp + 2 := by unfold chF; split <;> (try split) <;> omega
def unS (u b : Int32) : Int32 := if u = 0 then (if b = 0 then 0 else 1) else 1
def fnS (fo b0 bi : Int32) (v vi : Int64) : Int32 := if fo = 0 then (if b0 = 0 then (if bi = 0 then (if vi = v then 1 else 0) else 0) else 0) else 1
def srU (bf : Nat → Int32) (tp : Nat) : Nat → Int32 | 0 => hvI (bf tp) | n + 1 => unS (srU bf tp n) (bf (tp + 1 + n))
def srF (sf : Nat → Int64) (bf : Nat → Int32) (tp : Nat) : Nat → Int32 | 0 => 0 | n + 1 => fnS (srF sf bf tp n) (bf tp) (bf (tp + 1 + n)) (sf tp) (sf (tp + 1 + n))
def seB (fo u : Int32) : Int32 := if fo = 0 then (if u = 0 then 0 else 1) else 0
def hrS (y : Int64) : Int32 := if y = 0 then 0 else 1
def dvS (x y : Int64) : Int64 := if y = 0 then 0 else x / y
def rmS (x y : Int64) : Int64 := if y = 0 then 0 else x - x / y * y
def knS (a b : Int32) (y : Int64) : Int32 := if thI a = 0 then 0 else if thI b = 0 then 0 else if hrS y = 0 then 0 else 1
theorem dX1_choose_0 : decode cX1_choose 0 = .ok (.aload_n 0, 1) := by decide +kernel
theorem dX1_choose_1 : decode cX1_choose 1 = .ok (.getfield 62, 3) := by decide +kernel
theorem dX1_choose_4 : decode cX1_choose 4 = .ok (.iconst 3, 1) := by decide +kernel
theorem dX1_choose_5 : decode cX1_choose 5 = .ok (.if_icmp .ge 4, 3) := by decide +kernel
theorem dX1_choose_8 : decode cX1_choose 8 = .ok (.return_, 1) := by decide +kernel
theorem dX1_choose_9 : decode cX1_choose 9 = .ok (.aload_n 0, 1) := by decide +kernel
theorem dX1_choose_10 : decode cX1_choose 10 = .ok (.dup, 1) := by decide +kernel
theorem dX1_choose_11 : decode cX1_choose 11 = .ok (.getfield 62, 3) := by decide +kernel
theorem dX1_choose_14 : decode cX1_choose 14 = .ok (.iconst 3, 1) := by decide +kernel
theorem dX1_choose_15 : decode cX1_choose 15 = .ok (.isub, 1) := by decide +kernel
theorem dX1_choose_16 : decode cX1_choose 16 = .ok (.putfield 62, 3) := by decide +kernel
theorem dX1_choose_19 : decode cX1_choose 19 = .ok (.aload_n 0, 1) := by decide +kernel
theorem dX1_choose_20 : decode cX1_choose 20 = .ok (.getfield 49, 3) := by decide +kernel
theorem dX1_choose_23 : decode cX1_choose 23 = .ok (.aload_n 0, 1) := by decide +kernel
theorem dX1_choose_24 : decode cX1_choose 24 = .ok (.getfield 62, 3) := by decide +kernel
theorem dX1_choose_27 : decode cX1_choose 27 = .ok (.baload, 1) := by decide +kernel
theorem dX1_choose_28 : decode cX1_choose 28 = .ok (.ifCond .ne 26, 3) := by decide +kernel
theorem dX1_choose_31 : decode cX1_choose 31 = .ok (.aload_n 0, 1) := by decide +kernel
theorem dX1_choose_32 : decode cX1_choose 32 = .ok (.getfield 46, 3) := by decide +kernel
theorem dX1_choose_35 : decode cX1_choose 35 = .ok (.aload_n 0, 1) := by decide +kernel
theorem dX1_choose_36 : decode cX1_choose 36 = .ok (.getfield 62, 3) := by decide +kernel
theorem dX1_choose_39 : decode cX1_choose 39 = .ok (.laload, 1) := by decide +kernel
theorem dX1_choose_40 : decode cX1_choose 40 = .ok (.lconst 0, 1) := by decide +kernel
theorem dX1_choose_41 : decode cX1_choose 41 = .ok (.lcmp, 1) := by decide +kernel
theorem dX1_choose_42 : decode cX1_choose 42 = .ok (.ifCond .eq 12, 3) := by decide +kernel
theorem dX1_choose_45 : decode cX1_choose 45 = .ok (.aload_n 0, 1) := by decide +kernel
theorem dX1_choose_46 : decode cX1_choose 46 = .ok (.getfield 62, 3) := by decide +kernel
theorem dX1_choose_49 : decode cX1_choose 49 = .ok (.iconst 1, 1) := by decide +kernel
theorem dX1_choose_50 : decode cX1_choose 50 = .ok (.iadd, 1) := by decide +kernel
theorem dX1_choose_51 : decode cX1_choose 51 = .ok (.goto 9, 3) := by decide +kernel
theorem dX1_choose_54 : decode cX1_choose 54 = .ok (.aload_n 0, 1) := by decide +kernel
theorem dX1_choose_55 : decode cX1_choose 55 = .ok (.getfield 62, 3) := by decide +kernel
theorem dX1_choose_58 : decode cX1_choose 58 = .ok (.iconst 2, 1) := by decide +kernel
theorem dX1_choose_59 : decode cX1_choose 59 = .ok (.iadd, 1) := by decide +kernel
theorem dX1_choose_60 : decode cX1_choose 60 = .ok (.istore_n 1, 1) := by decide +kernel
theorem dX1_choose_61 : decode cX1_choose 61 = .ok (.aload_n 0, 1) := by decide +kernel
theorem dX1_choose_62 : decode cX1_choose 62 = .ok (.aload_n 0, 1) := by decide +kernel
theorem dX1_choose_63 : decode cX1_choose 63 = .ok (.getfield 46, 3) := by decide +kernel
theorem dX1_choose_66 : decode cX1_choose 66 = .ok (.iload_n 1, 1) := by decide +kernel
theorem dX1_choose_67 : decode cX1_choose 67 = .ok (.laload, 1) := by decide +kernel
theorem dX1_choose_68 : decode cX1_choose 68 = .ok (.aload_n 0, 1) := by decide +kernel
theorem dX1_choose_69 : decode cX1_choose 69 = .ok (.getfield 49, 3) := by decide +kernel
theorem dX1_choose_72 : decode cX1_choose 72 = .ok (.iload_n 1, 1) := by decide +kernel
theorem dX1_choose_73 : decode cX1_choose 73 = .ok (.baload, 1) := by decide +kernel
theorem dX1_choose_74 : decode cX1_choose 74 = .ok (.invokevirtual 69, 3) := by decide +kernel
theorem dX1_choose_77 : decode cX1_choose 77 = .ok (.return_, 1) := by decide +kernel
abbrev cs_t_X1_choose (cB cI cJ cZ : ClassId) (h0 hS1 hB1 : Nat) (sz1 : Int32) (k1 k2 k3 k4 k5 k6 k7 k8 k9 : Value) (N : Nat) (sf : Nat → Int64) (bf : Nat → Int32) (tp : Nat) : va_W := [(h0, .inr (2, [.int sz1, k1, k2, k3, k4, k5, k6, k7, k8, k9, .ref hS1, .ref hB1, .int (nI (tp + 3))])), (hS1, .inl (cJ, N, .inr (.inl sf))), (hB1, .inl (cB, N, .inl bf))]
abbrev pc_t_X1_choose (dC : Nat → ClassId) (dI : Nat → Nat → Nat) (sz : Nat) (cB cI cJ cZ : ClassId) (h0 hS1 hB1 : Nat) (sz1 : Int32) (k1 k2 k3 k4 k5 k6 k7 k8 k9 : Value) (N : Nat) (sf : Nat → Int64) (bf : Nat → Int32) (tp : Nat) : Array Value → State → Prop := va_Pc [.ref h0] (fun U => U.heap.size = sz ∧ va_P (dC, dI) vwCl [(h0, .inr (2, [.int sz1, k1, k2, k3, k4, k5, k6, k7, k8, k9, .ref hS1, .ref hB1, .int (nI (tp + 3))])), (hS1, .inl (cJ, N, .inr (.inl sf))), (hB1, .inl (cB, N, .inl bf))] U.heap ∧ va_K (dC, dI) vwCl [(cB, .byte), (cI, .int), (cJ, .long), (cZ, .boolean)] U ∧ va_D (fun _ => True) [(h0, .inr (2, [.int sz1, k1, k2, k3, k4, k5, k6, k7, k8, k9, .ref hS1, .ref hB1, .int (nI (tp + 3))])), (hS1, .inl (cJ, N, .inr (.inl sf))), (hB1, .inl (cB, N, .inl bf))])
abbrev qc_t_X1_choose (dC : Nat → ClassId) (dI : Nat → Nat → Nat) (cB cI cJ cZ : ClassId) (h0 hS1 hB1 : Nat) (sz1 : Int32) (k1 k2 k3 k4 k5 k6 k7 k8 k9 : Value) (N : Nat) (sf : Nat → Int64) (bf : Nat → Int32) (tp : Nat) (A : Nat → Prop) : Array Value → State → Outcome → State → Prop := va_Qv (fun (u : Unit) => match u with | _ => True) (fun (u : Unit) t_ => match u with | _ => va_P (dC, dI) vwCl [(h0, .inr (2, [.int sz1, k1, k2, k3, k4, k5, k6, k7, k8, k9, .ref hS1, .ref hB1, .int (nI (tp + 1))])), (hS1, .inl (cJ, N, .inr (.inl (vp_updL sf tp (pv (sf (chF sf bf tp)) (bf (chF sf bf tp))))))), (hB1, .inl (cB, N, .inl (upd bf tp (pb (bf (chF sf bf tp))))))] t_.heap ∧ va_K (dC, dI) vwCl [(cB, .byte), (cI, .int), (cJ, .long), (cZ, .boolean)] t_ ∧ va_D A [(h0, .inr (2, [.int sz1, k1, k2, k3, k4, k5, k6, k7, k8, k9, .ref hS1, .ref hB1, .int (nI (tp + 1))])), (hS1, .inl (cJ, N, .inr (.inl (vp_updL sf tp (pv (sf (chF sf bf tp)) (bf (chF sf bf tp))))))), (hB1, .inl (cB, N, .inl (upd bf tp (pb (bf (chF sf bf tp))))))]) A
set_option maxHeartbeats 4000000 in
set_option maxRecDepth 100000 in
theorem t_X1_choose (l : Launch) (dC : Nat → ClassId) (dI : Nat → Nat → Nat) (sz : Nat) (cB cI cJ cZ : ClassId) (h0 hS1 hB1 : Nat) (sz1 : Int32) (k1 k2 k3 k4 k5 k6 k7 k8 k9 : Value) (N : Nat) (sf : Nat → Int64) (bf : Nat → Int32) (tp : Nat) (hN : N < 1000000) (htp : tp + 3 ≤ N) : Met l yX1_choose (wsOf yX1_choose cX1_choose 2 none) ({ frames := 1, cells := 0, slots := 0, locals := 60 }) (pc_t_X1_choose dC dI sz cB cI cJ cZ h0 hS1 hB1 sz1 k1 k2 k3 k4 k5 k6 k7 k8 k9 N sf bf tp) (qc_t_X1_choose dC dI cB cI cJ cZ h0 hS1 hB1 sz1 k1 k2 k3 k4 k5 k6 k7 k8 k9 N sf bf tp (va_A (cs_t_X1_choose cB cI cJ cZ h0 hS1 hB1 sz1 k1 k2 k3 k4 k5 k6 k7 k8 k9 N sf bf tp) sz)) 0 0 (va_A (cs_t_X1_choose cB cI cJ cZ h0 hS1 hB1 sz1 k1 k2 k3 k4 k5 k6 k7 k8 k9 N sf bf tp) sz) := by
  refine Met.ofW (cc := cX1_choose) (maxL := 2) (ret := none) (by decide) rfl ?_
  intro p e s m args below meth c s₁ B hml hv
  obtain ⟨rfl, hsz, hP, hK, hD0⟩ := hv
  have hx := B.exec
  have hb := B.bytes
  have hr := B.returns
  have hts := atoms_spec (ws := (wsOf yX1_choose cX1_choose 2 none)) B.pre
  have hown : s.vm.findClass RX1 = some m.cls := findClass_of_methodNamed B.named
  have hlocks := B.notSynchronized
  subst hsz
  have hD := hD0.self (sz := s.heap.size)
  generalize hAe : va_A (cs_t_X1_choose cB cI cJ cZ h0 hS1 hB1 sz1 k1 k2 k3 k4 k5 k6 k7 k8 k9 N sf bf tp) s.heap.size = A at hD ⊢
  have hA : ∀ q : Nat, s.heap.size ≤ q → A q := fun q h => by rw [← hAe]; exact Or.inr h
  have hS : va_S A s.heap s.heap [] := va_S.rf
  have hP : va_P (dC, dI) vwCl [(h0, .inr (2, [.int sz1, k1, k2, k3, k4, k5, k6, k7, k8, k9, .ref hS1, .ref hB1, .int (nI (tp + 3))])), (hS1, .inl (cJ, N, .inr (.inl sf))), (hB1, .inl (cB, N, .inl bf))] s.heap := hP
  have hl := lv_entry ([.ref h0]) (n := 2) (Nat.le_of_ble_eq_true rfl)
  rw [lg_entry_eq]
  generalize (lg_sl ([.ref h0]) ++ List.replicate (2 - (lg_sl ([.ref h0])).length) Slot.unset).toArray = ls at hl ⊢
  have hl : lv_has ls 2 [(0, .ref h0)] := hl
  refine lv_aload_n hx hb dX1_choose_0 rfl (lv_at hl 0 rfl) ?_
  refine va_get (D := (dC, dI)) (ci := 2) (v := .int (nI (tp + 3))) (C := RX1) (T := TX1) (N := 13) hx hb hts (fun w h => List.mem_cons_of_mem _ (uG_X1 w h)) hown hK hP 0 rfl rfl 12 (by decide) (hts _ (List.mem_cons_of_mem _ kw_400)) (fun _ h9 => h9) rfl dX1_choose_1 ?_
  refine lv_iconst (v := 3) hx hb dX1_choose_4 (by decide) ?_
  refine lv_icmp_ge (tgt := 9) hx hb dX1_choose_5 (by decide) (fun c_1 => ?_) (fun c_1 => ?_)
  · skip
    have c_1 : 3 ≤ tp + 3 := (nI_leI (a := 3) (b := tp + 3) (by omega) (by omega)).mp c_1
    refine lv_aload_n hx hb dX1_choose_9 rfl (lv_at hl 0 rfl) ?_
    refine lv_dup hx hb dX1_choose_10 rfl ?_
    refine va_get (D := (dC, dI)) (ci := 2) (v := .int (nI (tp + 3))) (C := RX1) (T := TX1) (N := 13) hx hb hts (fun w h => List.mem_cons_of_mem _ (uG_X1 w h)) hown hK hP 0 rfl rfl 12 (by decide) (hts _ (List.mem_cons_of_mem _ kw_400)) (fun _ h9 => h9) rfl dX1_choose_11 ?_
    refine lv_iconst (v := 3) hx hb dX1_choose_14 (by decide) ?_
    refine lv_isub hx hb dX1_choose_15 ?_
    refine lv_topi (fun x_2 ex_2 => ?_)
    have ex_2 : x_2 = nI tp := by exact ex_2.trans (pk_sub (a := tp + 3) (b := 3) (by omega))
    subst ex_2
    refine va_put (D := (dC, dI)) (ci := 2) (v := .int (nI tp)) (ty := .int) (C := RX1) (T := TX1) (N := 13) hx hb hts (fun w h => List.mem_cons_of_mem _ (uG_X1 w h)) tyX1 tyX1_ok nmX1 hown hK hP hD hS 0 rfl rfl 12 (by decide) (hts _ (List.mem_cons_of_mem _ kw_400)) (fun _ h9 => h9) rfl (by decide +kernel) rfl rfl (Nat.le_of_ble_eq_true rfl) dX1_choose_16 (fun H locs hP hD hS => ?_)
    have hP : va_P (dC, dI) vwCl [(h0, .inr (2, [.int sz1, k1, k2, k3, k4, k5, k6, k7, k8, k9, .ref hS1, .ref hB1, .int (nI tp)])), (hS1, .inl (cJ, N, .inr (.inl sf))), (hB1, .inl (cB, N, .inl bf))] H := hP
    have hD : va_D A [(h0, .inr (2, [.int sz1, k1, k2, k3, k4, k5, k6, k7, k8, k9, .ref hS1, .ref hB1, .int (nI tp)])), (hS1, .inl (cJ, N, .inr (.inl sf))), (hB1, .inl (cB, N, .inl bf))] := hD
    have mg_3 : ∀ (H : Heap) (locs : List Loc), va_P (dC, dI) vwCl [(h0, .inr (2, [.int sz1, k1, k2, k3, k4, k5, k6, k7, k8, k9, .ref hS1, .ref hB1, .int (nI tp)])), (hS1, .inl (cJ, N, .inr (.inl sf))), (hB1, .inl (cB, N, .inl bf))] H → va_D A [(h0, .inr (2, [.int sz1, k1, k2, k3, k4, k5, k6, k7, k8, k9, .ref hS1, .ref hB1, .int (nI tp)])), (hS1, .inl (cJ, N, .inr (.inl sf))), (hB1, .inl (cB, N, .inl bf))] → va_S A s.heap H locs → W p l e (headSpec (wsOf yX1_choose cX1_choose 2 none) ({ frames := 1, cells := 0, slots := 0, locals := 60 })).room s m ([.ref h0] : List Value).toArray below meth c H locs 0 0 (MQ below (qc_t_X1_choose dC dI cB cI cJ cZ h0 hS1 hB1 sz1 k1 k2 k3 k4 k5 k6 k7 k8 k9 N sf bf tp A) ([.ref h0] : List Value).toArray s 0 0 A) (F0 m 60 ls [.int (nI (chF sf bf tp))]) := by
      intro H locs hP hD hS
      have hch := chF_le sf bf tp
      refine lv_istore_n (lv' := [(1, .int (nI (chF sf bf tp))), (0, .ref h0)]) hx hb dX1_choose_60 rfl hl (by decide) rfl (fun ls hl => ?_)
      refine lv_aload_n hx hb dX1_choose_61 rfl (lv_at hl 1 rfl) ?_
      refine lv_aload_n hx hb dX1_choose_62 rfl (lv_at hl 1 rfl) ?_
      refine va_get (D := (dC, dI)) (ci := 2) (v := .ref hS1) (C := RX1) (T := TX1) (N := 13) hx hb hts (fun w h => List.mem_cons_of_mem _ (uG_X1 w h)) hown hK hP 0 rfl rfl 10 (by decide) (hts _ (List.mem_cons_of_mem _ kw_398)) (fun _ h9 => h9) rfl dX1_choose_63 ?_
      refine lv_iload_n hx hb dX1_choose_66 rfl (lv_at hl 0 rfl) ?_
      refine va_lald hx hb hK hP 1 2 rfl rfl (i := (nI (chF sf bf tp))) (vp_in_nI (n := chF sf bf tp) (N := N) (by omega) (by omega)) dX1_choose_67 ?_
      refine lv_topl (fun x_4 ex_4 => ?_)
      have ex_4 : x_4 = sf (chF sf bf tp) := ex_4.trans (congrArg sf (nI_clamp (n := chF sf bf tp) (by omega)))
      subst ex_4
      refine lv_aload_n hx hb dX1_choose_68 rfl (lv_at hl 1 rfl) ?_
      refine va_get (D := (dC, dI)) (ci := 2) (v := .ref hB1) (C := RX1) (T := TX1) (N := 13) hx hb hts (fun w h => List.mem_cons_of_mem _ (uG_X1 w h)) hown hK hP 0 rfl rfl 11 (by decide) (hts _ (List.mem_cons_of_mem _ kw_399)) (fun _ h9 => h9) rfl dX1_choose_69 ?_
      refine lv_iload_n hx hb dX1_choose_72 rfl (lv_at hl 0 rfl) ?_
      refine va_bald hx hb hK hP 2 0 rfl rfl (i := (nI (chF sf bf tp))) (vp_in_nI (n := chF sf bf tp) (N := N) (by omega) (by omega)) dX1_choose_73 ?_
      refine lv_topi (fun x_5 ex_5 => ?_)
      have ex_5 : x_5 = bf (chF sf bf tp) := ex_5.trans (congrArg bf (nI_clamp (n := chF sf bf tp) (by omega)))
      subst ex_5
      have hPc := hP.sub (ws' := [(h0, .inr (2, [.int sz1, k1, k2, k3, k4, k5, k6, k7, k8, k9, .ref hS1, .ref hB1, .int (nI tp)])), (hS1, .inl (cJ, N, .inr (.inl sf))), (hB1, .inl (cB, N, .inl bf))]) [0, 1, 2] rfl
      have hDc := hD.sub (ws' := [(h0, .inr (2, [.int sz1, k1, k2, k3, k4, k5, k6, k7, k8, k9, .ref hS1, .ref hB1, .int (nI tp)])), (hS1, .inl (cJ, N, .inr (.inl sf))), (hB1, .inl (cB, N, .inl bf))]) [0, 1, 2] (by decide) rfl
      have hKc := hK.sub (tys' := [(cB, .byte), (cI, .int), (cJ, .long), (cZ, .boolean)]) [0, 1, 2, 3] rfl
      have hFc := va_free (wc := [(h0, .inr (2, [.int sz1, k1, k2, k3, k4, k5, k6, k7, k8, k9, .ref hS1, .ref hB1, .int (nI tp)])), (hS1, .inl (cJ, N, .inr (.inl sf))), (hB1, .inl (cB, N, .inl bf))]) hD hS hA [0, 1, 2] rfl
      refine va_callv (va_runV (As := [.long (sf (chF sf bf tp)), .int (bf (chF sf bf tp))]) (rest := []) ⟨hx, hb, hml, hown, hts⟩ (t_X1_push l dC dI H.size cB cI cJ cZ h0 hS1 hB1 sz1 k1 k2 k3 k4 k5 k6 k7 k8 k9 N sf bf tp (sf (chF sf bf tp)) (bf (chF sf bf tp)) (by omega) (by omega)) (cwV 2 hts (gd_all (in_V kw_1415 kw_1417 kw_73 kw_189 kc_X1_push)) rfl rfl rfl (by decide +kernel) ⟨Nat.le_of_ble_eq_true rfl, Nat.le_of_ble_eq_true rfl⟩) ⟨fun a U g mk q => by obtain ⟨q0, q1, qP, qK, qD⟩ := q; exact ⟨q0, q1, qP, va_K.moved (u := U) (U := U.calling g mk a) (Vm.Alike.refl U.vm) qK, qD⟩, va_recv hKc hPc (ci := 2) (q0 := 0) rfl rfl, fun U hU hW => ⟨rfl, by rw [hU], by rw [hU]; exact hPc, va_K.moved hW.alike hKc, hDc.weaken (fun _ _ _ _ => trivial)⟩⟩ rfl rfl hl.1 rfl (lv_room (Nat.le_of_ble_eq_true rfl)) dX1_choose_74 ⟨Nat.le_of_ble_eq_true rfl, Nat.le_of_ble_eq_true rfl⟩) hS (fun q _ h => hFc q h) hFc (fun u t_ H1 locs ht hvm hw hB hz1 hk1 hS => ?_)
      obtain ⟨hP1, hK1, hD1⟩ := hB
      rw [ht] at hP1
      have hK1 := va_K.moved hvm.symm hK1
      obtain ⟨hP, hD⟩ := va_join (wr := []) (w1 := [(h0, .inr (2, [.int sz1, k1, k2, k3, k4, k5, k6, k7, k8, k9, .ref hS1, .ref hB1, .int (nI (tp + 1))])), (hS1, .inl (cJ, N, .inr (.inl (vp_updL sf tp (pv (sf (chF sf bf tp)) (bf (chF sf bf tp))))))), (hB1, .inl (cB, N, .inl (upd bf tp (pb (bf (chF sf bf tp))))))]) hP hD [0, 1, 2] [] rfl rfl (by decide) (by decide) hk1 hFc hP1 hD1
      have hK := (hK.sub (tys' := []) [] rfl).app hK1
      generalize H1 = H at hP hS ⊢
      have hP : va_P (dC, dI) vwCl [(h0, .inr (2, [.int sz1, k1, k2, k3, k4, k5, k6, k7, k8, k9, .ref hS1, .ref hB1, .int (nI (tp + 1))])), (hS1, .inl (cJ, N, .inr (.inl (vp_updL sf tp (pv (sf (chF sf bf tp)) (bf (chF sf bf tp))))))), (hB1, .inl (cB, N, .inl (upd bf tp (pb (bf (chF sf bf tp))))))] H := hP
      have hD : va_D A [(h0, .inr (2, [.int sz1, k1, k2, k3, k4, k5, k6, k7, k8, k9, .ref hS1, .ref hB1, .int (nI (tp + 1))])), (hS1, .inl (cJ, N, .inr (.inl (vp_updL sf tp (pv (sf (chF sf bf tp)) (bf (chF sf bf tp))))))), (hB1, .inl (cB, N, .inl (upd bf tp (pb (bf (chF sf bf tp))))))] := hD
      have hK : va_K (dC, dI) vwCl [(cB, .byte), (cI, .int), (cJ, .long), (cZ, .boolean)] s := hK
      have hP9 := hP.sub (ws' := [(h0, .inr (2, [.int sz1, k1, k2, k3, k4, k5, k6, k7, k8, k9, .ref hS1, .ref hB1, .int (nI (tp + 1))])), (hS1, .inl (cJ, N, .inr (.inl (vp_updL sf tp (pv (sf (chF sf bf tp)) (bf (chF sf bf tp))))))), (hB1, .inl (cB, N, .inl (upd bf tp (pb (bf (chF sf bf tp))))))]) [0, 1, 2] rfl
      have hD9 := hD.sub (ws' := [(h0, .inr (2, [.int sz1, k1, k2, k3, k4, k5, k6, k7, k8, k9, .ref hS1, .ref hB1, .int (nI (tp + 1))])), (hS1, .inl (cJ, N, .inr (.inl (vp_updL sf tp (pv (sf (chF sf bf tp)) (bf (chF sf bf tp))))))), (hB1, .inl (cB, N, .inl (upd bf tp (pb (bf (chF sf bf tp))))))]) [0, 1, 2] (by decide) rfl
      have hK9 := hK.sub (tys' := [(cB, .byte), (cI, .int), (cJ, .long), (cZ, .boolean)]) [0, 1, 2, 3] rfl
      exact W.vret hx hb hr (fun t_ ht hW => ⟨⟨(), rfl, trivial, by rw [ht]; exact hP9, va_K.moved hW.alike hK9, hD9⟩, hS.F ht⟩) hS.2.2 dX1_choose_77
    refine lv_aload_n hx hb dX1_choose_19 rfl (lv_at hl 0 rfl) ?_
    refine va_get (D := (dC, dI)) (ci := 2) (v := .ref hB1) (C := RX1) (T := TX1) (N := 13) hx hb hts (fun w h => List.mem_cons_of_mem _ (uG_X1 w h)) hown hK hP 0 rfl rfl 11 (by decide) (hts _ (List.mem_cons_of_mem _ kw_399)) (fun _ h9 => h9) rfl dX1_choose_20 ?_
    refine lv_aload_n hx hb dX1_choose_23 rfl (lv_at hl 0 rfl) ?_
    refine va_get (D := (dC, dI)) (ci := 2) (v := .int (nI tp)) (C := RX1) (T := TX1) (N := 13) hx hb hts (fun w h => List.mem_cons_of_mem _ (uG_X1 w h)) hown hK hP 0 rfl rfl 12 (by decide) (hts _ (List.mem_cons_of_mem _ kw_400)) (fun _ h9 => h9) rfl dX1_choose_24 ?_
    refine va_bald hx hb hK hP 2 0 rfl rfl (i := (nI tp)) (vp_in_nI (n := tp) (N := N) (by omega) (by omega)) dX1_choose_27 ?_
    refine lv_topi (fun x_7 ex_7 => ?_)
    have ex_7 : x_7 = bf tp := ex_7.trans (congrArg bf (nI_clamp (n := tp) (by omega)))
    subst ex_7
    refine lv_if_ne (tgt := 54) hx hb dX1_choose_28 (by decide) (fun c_8 => ?_) (fun c_8 => ?_)
    · skip
      refine lv_aload_n hx hb dX1_choose_54 rfl (lv_at hl 0 rfl) ?_
      refine va_get (D := (dC, dI)) (ci := 2) (v := .int (nI tp)) (C := RX1) (T := TX1) (N := 13) hx hb hts (fun w h => List.mem_cons_of_mem _ (uG_X1 w h)) hown hK hP 0 rfl rfl 12 (by decide) (hts _ (List.mem_cons_of_mem _ kw_400)) (fun _ h9 => h9) rfl dX1_choose_55 ?_
      refine lv_iconst (v := 2) hx hb dX1_choose_58 (by decide) ?_
      refine lv_iadd hx hb dX1_choose_59 ?_
      refine lv_topi (fun x_9 ex_9 => ?_)
      have ex_9 : x_9 = nI (tp + 2) := ex_9.trans (nI_add tp 2)
      subst ex_9
      exact W.eq (by unfold chF; rw [if_neg c_8]) (mg_3 _ _ hP hD hS)
    · skip
      refine lv_aload_n hx hb dX1_choose_31 rfl (lv_at hl 0 rfl) ?_
      refine va_get (D := (dC, dI)) (ci := 2) (v := .ref hS1) (C := RX1) (T := TX1) (N := 13) hx hb hts (fun w h => List.mem_cons_of_mem _ (uG_X1 w h)) hown hK hP 0 rfl rfl 10 (by decide) (hts _ (List.mem_cons_of_mem _ kw_398)) (fun _ h9 => h9) rfl dX1_choose_32 ?_
      refine lv_aload_n hx hb dX1_choose_35 rfl (lv_at hl 0 rfl) ?_
      refine va_get (D := (dC, dI)) (ci := 2) (v := .int (nI tp)) (C := RX1) (T := TX1) (N := 13) hx hb hts (fun w h => List.mem_cons_of_mem _ (uG_X1 w h)) hown hK hP 0 rfl rfl 12 (by decide) (hts _ (List.mem_cons_of_mem _ kw_400)) (fun _ h9 => h9) rfl dX1_choose_36 ?_
      refine va_lald hx hb hK hP 1 2 rfl rfl (i := (nI tp)) (vp_in_nI (n := tp) (N := N) (by omega) (by omega)) dX1_choose_39 ?_
      refine lv_topl (fun x_10 ex_10 => ?_)
      have ex_10 : x_10 = sf tp := ex_10.trans (congrArg sf (nI_clamp (n := tp) (by omega)))
      subst ex_10
      refine lv_lconst (v := 0) hx hb dX1_choose_40 (by decide) ?_
      refine W.lcmp hx hb dX1_choose_41 ?_
      refine lv_if_eq (tgt := 54) hx hb dX1_choose_42 (by decide) (fun c_11 => ?_) (fun c_11 => ?_)
      · skip
        have c_11 : (sf tp) = 0 := (lg_cmp_eq (sf tp) 0).mp c_11
        refine lv_aload_n hx hb dX1_choose_54 rfl (lv_at hl 0 rfl) ?_
        refine va_get (D := (dC, dI)) (ci := 2) (v := .int (nI tp)) (C := RX1) (T := TX1) (N := 13) hx hb hts (fun w h => List.mem_cons_of_mem _ (uG_X1 w h)) hown hK hP 0 rfl rfl 12 (by decide) (hts _ (List.mem_cons_of_mem _ kw_400)) (fun _ h9 => h9) rfl dX1_choose_55 ?_
        refine lv_iconst (v := 2) hx hb dX1_choose_58 (by decide) ?_
        refine lv_iadd hx hb dX1_choose_59 ?_
        refine lv_topi (fun x_12 ex_12 => ?_)
        have ex_12 : x_12 = nI (tp + 2) := ex_12.trans (nI_add tp 2)
        subst ex_12
        exact W.eq (by unfold chF; rw [if_pos c_8, if_pos c_11]) (mg_3 _ _ hP hD hS)
      · skip
        have c_11 : ¬ ((sf tp) = 0) := fun h => c_11 ((lg_cmp_eq (sf tp) 0).mpr h)
        refine lv_aload_n hx hb dX1_choose_45 rfl (lv_at hl 0 rfl) ?_
        refine va_get (D := (dC, dI)) (ci := 2) (v := .int (nI tp)) (C := RX1) (T := TX1) (N := 13) hx hb hts (fun w h => List.mem_cons_of_mem _ (uG_X1 w h)) hown hK hP 0 rfl rfl 12 (by decide) (hts _ (List.mem_cons_of_mem _ kw_400)) (fun _ h9 => h9) rfl dX1_choose_46 ?_
        refine lv_iconst (v := 1) hx hb dX1_choose_49 (by decide) ?_
        refine lv_iadd hx hb dX1_choose_50 ?_
        refine lv_topi (fun x_13 ex_13 => ?_)
        have ex_13 : x_13 = nI (tp + 1) := ex_13.trans (nI_add tp 1)
        subst ex_13
        refine lv_goto (tgt := 60) hx hb dX1_choose_51 (by decide) ?_
        exact W.eq (by unfold chF; rw [if_pos c_8, if_neg c_11]) (mg_3 _ _ hP hD hS)
  · skip
    have c_1 : ¬ (3 ≤ tp + 3) := fun h => c_1 ((nI_leI (a := 3) (b := tp + 3) (by omega) (by omega)).mpr h)
    exact absurd (show 3 ≤ tp + 3 by omega) c_1
abbrev cs_t_reckon_slash (cB cI cJ cZ : ClassId) (x y : Int64) : va_W := []
abbrev pc_t_reckon_slash (dC : Nat → ClassId) (dI : Nat → Nat → Nat) (sz : Nat) (cB cI cJ cZ : ClassId) (x y : Int64) : Array Value → State → Prop := va_Pc [.int 48, .long x, .long y] (fun U => U.heap.size = sz ∧ va_P (dC, dI) vwCl [] U.heap ∧ va_K (dC, dI) vwCl [(cB, .byte), (cI, .int), (cJ, .long), (cZ, .boolean)] U ∧ va_D (fun _ => True) [])
abbrev qc_t_reckon_slash (dC : Nat → ClassId) (dI : Nat → Nat → Nat) (cB cI cJ cZ : ClassId) (x y : Int64) (A : Nat → Prop) : Array Value → State → Outcome → State → Prop := va_Ql (fun (r : Int64) (u : Unit) => match u with | _ => r = dvS x y) (fun (u : Unit) t_ => match u with | _ => va_P (dC, dI) vwCl [] t_.heap ∧ va_K (dC, dI) vwCl [(cB, .byte), (cI, .int), (cJ, .long), (cZ, .boolean)] t_ ∧ va_D A []) A
set_option maxHeartbeats 4000000 in
set_option maxRecDepth 100000 in
theorem t_reckon_slash (l : Launch) (dC : Nat → ClassId) (dI : Nat → Nat → Nat) (sz : Nat) (cB cI cJ cZ : ClassId) (x y : Int64)  : Met l yX1_reckon (wsOf yX1_reckon cX1_reckon 5 (some .long)) ({ frames := 0, cells := 0, slots := 0, locals := 0 }) (pc_t_reckon_slash dC dI sz cB cI cJ cZ x y) (qc_t_reckon_slash dC dI cB cI cJ cZ x y (va_A (cs_t_reckon_slash cB cI cJ cZ x y) sz)) 0 0 (va_A (cs_t_reckon_slash cB cI cJ cZ x y) sz) := by
  refine Met.ofW (cc := cX1_reckon) (maxL := 5) (ret := (some .long)) (by decide) rfl ?_
  intro p e s m args below meth c s₁ B hml hv
  obtain ⟨rfl, hsz, hP, hK, hD0⟩ := hv
  have hx := B.exec
  have hb := B.bytes
  have hr := B.returns
  have hts := atoms_spec (ws := (wsOf yX1_reckon cX1_reckon 5 (some .long))) B.pre
  have hown : s.vm.findClass RX1 = some m.cls := findClass_of_methodNamed B.named
  have hlocks := B.notSynchronized
  subst hsz
  have hD := hD0.self (sz := s.heap.size)
  generalize hAe : va_A (cs_t_reckon_slash cB cI cJ cZ x y) s.heap.size = A at hD ⊢
  have hA : ∀ q : Nat, s.heap.size ≤ q → A q := fun q h => by rw [← hAe]; exact Or.inr h
  have hS : va_S A s.heap s.heap [] := va_S.rf
  have hP : va_P (dC, dI) vwCl [] s.heap := hP
  have hl := lv_entry ([.int 48, .long x, .long y]) (n := 5) (Nat.le_of_ble_eq_true rfl)
  rw [lg_entry_eq]
  generalize (lg_sl ([.int 48, .long x, .long y]) ++ List.replicate (5 - (lg_sl ([.int 48, .long x, .long y])).length) Slot.unset).toArray = ls at hl ⊢
  have hl : lv_has ls 5 [(0, .int 48), (1, .long x), (3, .long y)] := hl
  refine lv_iload_n hx hb dX1_reckon_0 rfl (lv_at hl 0 rfl) ?_
  refine lv_tableIn (tgt := 104) (off := 103) hx hb dX1_reckon_1 (by decide) (by decide) (by decide) (by decide) ?_
  refine lv_lload_n hx hb dX1_reckon_104 rfl (lv_at hl 2 rfl) ?_
  refine lv_lconst (v := 0) hx hb dX1_reckon_105 (by decide) ?_
  refine W.lcmp hx hb dX1_reckon_106 ?_
  refine lv_if_ne (tgt := 114) hx hb dX1_reckon_107 (by decide) (fun c_1 => ?_) (fun c_1 => ?_)
  · skip
    have c_1 : ¬ (y = 0) := fun h => c_1 ((lg_cmp_eq y 0).mpr h)
    refine lv_lload_n hx hb dX1_reckon_114 rfl (lv_at hl 1 rfl) ?_
    refine lv_lload_n hx hb dX1_reckon_115 rfl (lv_at hl 2 rfl) ?_
    refine lv_ldiv hx hb dX1_reckon_116 c_1 ?_
    have hP9 := hP.sub (ws' := []) [] rfl
    have hD9 := hD.sub (ws' := []) [] (by decide) rfl
    have hK9 := hK.sub (tys' := [(cB, .byte), (cI, .int), (cJ, .long), (cZ, .boolean)]) [0, 1, 2, 3] rfl
    exact W.lret (v := (x / y)) hx hb hr (fun t_ ht hW => ⟨⟨(x / y), (), rfl, by unfold dvS; rw [if_neg c_1], by rw [ht]; exact hP9, va_K.moved hW.alike hK9, hD9⟩, hS.F ht⟩) hS.2.2 dX1_reckon_117
  · skip
    have c_1 : y = 0 := (lg_cmp_eq y 0).mp c_1
    refine lv_lconst (v := 0) hx hb dX1_reckon_110 (by decide) ?_
    refine lv_goto (tgt := 117) hx hb dX1_reckon_111 (by decide) ?_
    have hP9 := hP.sub (ws' := []) [] rfl
    have hD9 := hD.sub (ws' := []) [] (by decide) rfl
    have hK9 := hK.sub (tys' := [(cB, .byte), (cI, .int), (cJ, .long), (cZ, .boolean)]) [0, 1, 2, 3] rfl
    exact W.lret (v := 0) hx hb hr (fun t_ ht hW => ⟨⟨0, (), rfl, by unfold dvS; rw [if_pos c_1], by rw [ht]; exact hP9, va_K.moved hW.alike hK9, hD9⟩, hS.F ht⟩) hS.2.2 dX1_reckon_117
abbrev cs_t_hasResult_slash (cB cI cJ cZ : ClassId) (y : Int64) : va_W := []
abbrev pc_t_hasResult_slash (dC : Nat → ClassId) (dI : Nat → Nat → Nat) (sz : Nat) (cB cI cJ cZ : ClassId) (y : Int64) : Array Value → State → Prop := va_Pc [.int 48, .long y] (fun U => U.heap.size = sz ∧ va_P (dC, dI) vwCl [] U.heap ∧ va_K (dC, dI) vwCl [(cB, .byte), (cI, .int), (cJ, .long), (cZ, .boolean)] U ∧ va_D (fun _ => True) [])
abbrev qc_t_hasResult_slash (dC : Nat → ClassId) (dI : Nat → Nat → Nat) (cB cI cJ cZ : ClassId) (y : Int64) (A : Nat → Prop) : Array Value → State → Outcome → State → Prop := va_Qi (fun (r : Int32) (u : Unit) => match u with | _ => r = hrS y) (fun (u : Unit) t_ => match u with | _ => va_P (dC, dI) vwCl [] t_.heap ∧ va_K (dC, dI) vwCl [(cB, .byte), (cI, .int), (cJ, .long), (cZ, .boolean)] t_ ∧ va_D A []) A
set_option maxHeartbeats 4000000 in
set_option maxRecDepth 100000 in
theorem t_hasResult_slash (l : Launch) (dC : Nat → ClassId) (dI : Nat → Nat → Nat) (sz : Nat) (cB cI cJ cZ : ClassId) (y : Int64)  : Met l yX1_hasResult (wsOf yX1_hasResult cX1_hasResult 3 (some .boolean)) ({ frames := 0, cells := 0, slots := 0, locals := 0 }) (pc_t_hasResult_slash dC dI sz cB cI cJ cZ y) (qc_t_hasResult_slash dC dI cB cI cJ cZ y (va_A (cs_t_hasResult_slash cB cI cJ cZ y) sz)) 0 0 (va_A (cs_t_hasResult_slash cB cI cJ cZ y) sz) := by
  refine Met.ofW (cc := cX1_hasResult) (maxL := 3) (ret := (some .boolean)) (by decide) rfl ?_
  intro p e s m args below meth c s₁ B hml hv
  obtain ⟨rfl, hsz, hP, hK, hD0⟩ := hv
  have hx := B.exec
  have hb := B.bytes
  have hr := B.returns
  have hts := atoms_spec (ws := (wsOf yX1_hasResult cX1_hasResult 3 (some .boolean))) B.pre
  have hown : s.vm.findClass RX1 = some m.cls := findClass_of_methodNamed B.named
  have hlocks := B.notSynchronized
  subst hsz
  have hD := hD0.self (sz := s.heap.size)
  generalize hAe : va_A (cs_t_hasResult_slash cB cI cJ cZ y) s.heap.size = A at hD ⊢
  have hA : ∀ q : Nat, s.heap.size ≤ q → A q := fun q h => by rw [← hAe]; exact Or.inr h
  have hS : va_S A s.heap s.heap [] := va_S.rf
  have hP : va_P (dC, dI) vwCl [] s.heap := hP
  have hl := lv_entry ([.int 48, .long y]) (n := 3) (Nat.le_of_ble_eq_true rfl)
  rw [lg_entry_eq]
  generalize (lg_sl ([.int 48, .long y]) ++ List.replicate (3 - (lg_sl ([.int 48, .long y])).length) Slot.unset).toArray = ls at hl ⊢
  have hl : lv_has ls 3 [(0, .int 48), (1, .long y)] := hl
  refine lv_iload_n hx hb dX1_hasResult_0 rfl (lv_at hl 0 rfl) ?_
  refine lv_bipush (v := 48) hx hb dX1_hasResult_1 (by decide) ?_
  refine lv_icmp_eq (tgt := 12) hx hb dX1_hasResult_3 (by decide) (fun c_1 => ?_) (fun c_1 => ?_)
  · skip
    refine lv_lload_n hx hb dX1_hasResult_12 rfl (lv_at hl 1 rfl) ?_
    refine lv_lconst (v := 0) hx hb dX1_hasResult_13 (by decide) ?_
    refine W.lcmp hx hb dX1_hasResult_14 ?_
    refine lv_if_eq (tgt := 22) hx hb dX1_hasResult_15 (by decide) (fun c_2 => ?_) (fun c_2 => ?_)
    · skip
      have c_2 : y = 0 := (lg_cmp_eq y 0).mp c_2
      refine lv_iconst (v := 0) hx hb dX1_hasResult_22 (by decide) ?_
      have hP9 := hP.sub (ws' := []) [] rfl
      have hD9 := hD.sub (ws' := []) [] (by decide) rfl
      have hK9 := hK.sub (tys' := [(cB, .byte), (cI, .int), (cJ, .long), (cZ, .boolean)]) [0, 1, 2, 3] rfl
      exact W.zret (v := 0) hx hb hr (by rfl) (fun t_ ht hW => ⟨⟨0, (), rfl, by unfold hrS; rw [if_pos c_2], by rw [ht]; exact hP9, va_K.moved hW.alike hK9, hD9⟩, hS.F ht⟩) hS.2.2 dX1_hasResult_23
    · skip
      have c_2 : ¬ (y = 0) := fun h => c_2 ((lg_cmp_eq y 0).mpr h)
      refine lv_iconst (v := 1) hx hb dX1_hasResult_18 (by decide) ?_
      refine lv_goto (tgt := 23) hx hb dX1_hasResult_19 (by decide) ?_
      have hP9 := hP.sub (ws' := []) [] rfl
      have hD9 := hD.sub (ws' := []) [] (by decide) rfl
      have hK9 := hK.sub (tys' := [(cB, .byte), (cI, .int), (cJ, .long), (cZ, .boolean)]) [0, 1, 2, 3] rfl
      exact W.zret (v := 1) hx hb hr (by rfl) (fun t_ ht hW => ⟨⟨1, (), rfl, by unfold hrS; rw [if_neg c_2], by rw [ht]; exact hP9, va_K.moved hW.alike hK9, hD9⟩, hS.F ht⟩) hS.2.2 dX1_hasResult_23
  · skip
    exact absurd c_1 (by decide)
abbrev cs_t_two_slash (cB cI cJ cZ : ClassId) (h0 hS1 hB1 : Nat) (sz1 : Int32) (k1 k2 k3 k4 k5 k6 k7 k8 k9 : Value) (N : Nat) (sf : Nat → Int64) (bf : Nat → Int32) (tp : Nat) : va_W := [(h0, .inr (2, [.int sz1, k1, k2, k3, k4, k5, k6, k7, k8, k9, .ref hS1, .ref hB1, .int (nI (tp + 2))])), (hS1, .inl (cJ, N, .inr (.inl sf))), (hB1, .inl (cB, N, .inl bf))]
abbrev pc_t_two_slash (dC : Nat → ClassId) (dI : Nat → Nat → Nat) (sz : Nat) (cB cI cJ cZ : ClassId) (h0 hS1 hB1 : Nat) (sz1 : Int32) (k1 k2 k3 k4 k5 k6 k7 k8 k9 : Value) (N : Nat) (sf : Nat → Int64) (bf : Nat → Int32) (tp : Nat) : Array Value → State → Prop := va_Pc [.ref h0, .int 48] (fun U => U.heap.size = sz ∧ va_P (dC, dI) vwCl [(h0, .inr (2, [.int sz1, k1, k2, k3, k4, k5, k6, k7, k8, k9, .ref hS1, .ref hB1, .int (nI (tp + 2))])), (hS1, .inl (cJ, N, .inr (.inl sf))), (hB1, .inl (cB, N, .inl bf))] U.heap ∧ va_K (dC, dI) vwCl [(cB, .byte), (cI, .int), (cJ, .long), (cZ, .boolean)] U ∧ va_D (fun _ => True) [(h0, .inr (2, [.int sz1, k1, k2, k3, k4, k5, k6, k7, k8, k9, .ref hS1, .ref hB1, .int (nI (tp + 2))])), (hS1, .inl (cJ, N, .inr (.inl sf))), (hB1, .inl (cB, N, .inl bf))])
abbrev qc_t_two_slash (dC : Nat → ClassId) (dI : Nat → Nat → Nat) (cB cI cJ cZ : ClassId) (h0 hS1 hB1 : Nat) (sz1 : Int32) (k1 k2 k3 k4 k5 k6 k7 k8 k9 : Value) (N : Nat) (sf : Nat → Int64) (bf : Nat → Int32) (tp : Nat) (A : Nat → Prop) : Array Value → State → Outcome → State → Prop := va_Qv (fun (u : Unit) => match u with | _ => True) (fun (u : Unit) t_ => match u with | _ => va_P (dC, dI) vwCl [(h0, .inr (2, [.int sz1, k1, k2, k3, k4, k5, k6, k7, k8, k9, .ref hS1, .ref hB1, .int (nI (tp + 1))])), (hS1, .inl (cJ, N, .inr (.inl (vp_updL sf tp (pv (kvI (knS (bf tp) (bf (tp + 1)) (sf (tp + 1))) (dvS (sf tp) (sf (tp + 1)))) (nbI (knS (bf tp) (bf (tp + 1)) (sf (tp + 1))))))))), (hB1, .inl (cB, N, .inl (upd bf tp (pb (nbI (knS (bf tp) (bf (tp + 1)) (sf (tp + 1))))))))] t_.heap ∧ va_K (dC, dI) vwCl [(cB, .byte), (cI, .int), (cJ, .long), (cZ, .boolean)] t_ ∧ va_D A [(h0, .inr (2, [.int sz1, k1, k2, k3, k4, k5, k6, k7, k8, k9, .ref hS1, .ref hB1, .int (nI (tp + 1))])), (hS1, .inl (cJ, N, .inr (.inl (vp_updL sf tp (pv (kvI (knS (bf tp) (bf (tp + 1)) (sf (tp + 1))) (dvS (sf tp) (sf (tp + 1)))) (nbI (knS (bf tp) (bf (tp + 1)) (sf (tp + 1))))))))), (hB1, .inl (cB, N, .inl (upd bf tp (pb (nbI (knS (bf tp) (bf (tp + 1)) (sf (tp + 1))))))))]) A
set_option maxHeartbeats 4000000 in
set_option maxRecDepth 100000 in
theorem t_two_slash (l : Launch) (dC : Nat → ClassId) (dI : Nat → Nat → Nat) (sz : Nat) (cB cI cJ cZ : ClassId) (h0 hS1 hB1 : Nat) (sz1 : Int32) (k1 k2 k3 k4 k5 k6 k7 k8 k9 : Value) (N : Nat) (sf : Nat → Int64) (bf : Nat → Int32) (tp : Nat) (hN : N < 1000000) (htp : tp + 2 ≤ N) : Met l yX1_two (wsOf yX1_two cX1_two 10 none) ({ frames := 1, cells := 0, slots := 0, locals := 24 }) (pc_t_two_slash dC dI sz cB cI cJ cZ h0 hS1 hB1 sz1 k1 k2 k3 k4 k5 k6 k7 k8 k9 N sf bf tp) (qc_t_two_slash dC dI cB cI cJ cZ h0 hS1 hB1 sz1 k1 k2 k3 k4 k5 k6 k7 k8 k9 N sf bf tp (va_A (cs_t_two_slash cB cI cJ cZ h0 hS1 hB1 sz1 k1 k2 k3 k4 k5 k6 k7 k8 k9 N sf bf tp) sz)) 0 0 (va_A (cs_t_two_slash cB cI cJ cZ h0 hS1 hB1 sz1 k1 k2 k3 k4 k5 k6 k7 k8 k9 N sf bf tp) sz) := by
  refine Met.ofW (cc := cX1_two) (maxL := 10) (ret := none) (by decide) rfl ?_
  intro p e s m args below meth c s₁ B hml hv
  obtain ⟨rfl, hsz, hP, hK, hD0⟩ := hv
  have hx := B.exec
  have hb := B.bytes
  have hr := B.returns
  have hts := atoms_spec (ws := (wsOf yX1_two cX1_two 10 none)) B.pre
  have hown : s.vm.findClass RX1 = some m.cls := findClass_of_methodNamed B.named
  have hlocks := B.notSynchronized
  subst hsz
  have hD := hD0.self (sz := s.heap.size)
  generalize hAe : va_A (cs_t_two_slash cB cI cJ cZ h0 hS1 hB1 sz1 k1 k2 k3 k4 k5 k6 k7 k8 k9 N sf bf tp) s.heap.size = A at hD ⊢
  have hA : ∀ q : Nat, s.heap.size ≤ q → A q := fun q h => by rw [← hAe]; exact Or.inr h
  have hS : va_S A s.heap s.heap [] := va_S.rf
  have hP : va_P (dC, dI) vwCl [(h0, .inr (2, [.int sz1, k1, k2, k3, k4, k5, k6, k7, k8, k9, .ref hS1, .ref hB1, .int (nI (tp + 2))])), (hS1, .inl (cJ, N, .inr (.inl sf))), (hB1, .inl (cB, N, .inl bf))] s.heap := hP
  have hl := lv_entry ([.ref h0, .int 48]) (n := 10) (Nat.le_of_ble_eq_true rfl)
  rw [lg_entry_eq]
  generalize (lg_sl ([.ref h0, .int 48]) ++ List.replicate (10 - (lg_sl ([.ref h0, .int 48])).length) Slot.unset).toArray = ls at hl ⊢
  have hl : lv_has ls 10 [(0, .ref h0), (1, .int 48)] := hl
  refine lv_aload_n hx hb dX1_two_0 rfl (lv_at hl 0 rfl) ?_
  refine va_get (D := (dC, dI)) (ci := 2) (v := .int (nI (tp + 2))) (C := RX1) (T := TX1) (N := 13) hx hb hts (fun w h => List.mem_cons_of_mem _ (uG_X1 w h)) hown hK hP 0 rfl rfl 12 (by decide) (hts _ (List.mem_cons_of_mem _ kw_400)) (fun _ h9 => h9) rfl dX1_two_1 ?_
  refine lv_iconst (v := 2) hx hb dX1_two_4 (by decide) ?_
  refine lv_icmp_ge (tgt := 9) hx hb dX1_two_5 (by decide) (fun c_1 => ?_) (fun c_1 => ?_)
  · skip
    have c_1 : 2 ≤ tp + 2 := (nI_leI (a := 2) (b := tp + 2) (by omega) (by omega)).mp c_1
    refine lv_aload_n hx hb dX1_two_9 rfl (lv_at hl 0 rfl) ?_
    refine lv_dup hx hb dX1_two_10 rfl ?_
    refine va_get (D := (dC, dI)) (ci := 2) (v := .int (nI (tp + 2))) (C := RX1) (T := TX1) (N := 13) hx hb hts (fun w h => List.mem_cons_of_mem _ (uG_X1 w h)) hown hK hP 0 rfl rfl 12 (by decide) (hts _ (List.mem_cons_of_mem _ kw_400)) (fun _ h9 => h9) rfl dX1_two_11 ?_
    refine lv_iconst (v := 2) hx hb dX1_two_14 (by decide) ?_
    refine lv_isub hx hb dX1_two_15 ?_
    refine lv_topi (fun x_2 ex_2 => ?_)
    have ex_2 : x_2 = nI tp := by exact ex_2.trans (pk_sub (a := tp + 2) (b := 2) (by omega))
    subst ex_2
    refine va_put (D := (dC, dI)) (ci := 2) (v := .int (nI tp)) (ty := .int) (C := RX1) (T := TX1) (N := 13) hx hb hts (fun w h => List.mem_cons_of_mem _ (uG_X1 w h)) tyX1 tyX1_ok nmX1 hown hK hP hD hS 0 rfl rfl 12 (by decide) (hts _ (List.mem_cons_of_mem _ kw_400)) (fun _ h9 => h9) rfl (by decide +kernel) rfl rfl (Nat.le_of_ble_eq_true rfl) dX1_two_16 (fun H locs hP hD hS => ?_)
    have hP : va_P (dC, dI) vwCl [(h0, .inr (2, [.int sz1, k1, k2, k3, k4, k5, k6, k7, k8, k9, .ref hS1, .ref hB1, .int (nI tp)])), (hS1, .inl (cJ, N, .inr (.inl sf))), (hB1, .inl (cB, N, .inl bf))] H := hP
    have hD : va_D A [(h0, .inr (2, [.int sz1, k1, k2, k3, k4, k5, k6, k7, k8, k9, .ref hS1, .ref hB1, .int (nI tp)])), (hS1, .inl (cJ, N, .inr (.inl sf))), (hB1, .inl (cB, N, .inl bf))] := hD
    refine lv_aload_n hx hb dX1_two_19 rfl (lv_at hl 0 rfl) ?_
    refine va_get (D := (dC, dI)) (ci := 2) (v := .ref hS1) (C := RX1) (T := TX1) (N := 13) hx hb hts (fun w h => List.mem_cons_of_mem _ (uG_X1 w h)) hown hK hP 0 rfl rfl 10 (by decide) (hts _ (List.mem_cons_of_mem _ kw_398)) (fun _ h9 => h9) rfl dX1_two_20 ?_
    refine lv_aload_n hx hb dX1_two_23 rfl (lv_at hl 0 rfl) ?_
    refine va_get (D := (dC, dI)) (ci := 2) (v := .int (nI tp)) (C := RX1) (T := TX1) (N := 13) hx hb hts (fun w h => List.mem_cons_of_mem _ (uG_X1 w h)) hown hK hP 0 rfl rfl 12 (by decide) (hts _ (List.mem_cons_of_mem _ kw_400)) (fun _ h9 => h9) rfl dX1_two_24 ?_
    refine va_lald hx hb hK hP 1 2 rfl rfl (i := (nI tp)) (vp_in_nI (n := tp) (N := N) (by omega) (by omega)) dX1_two_27 ?_
    refine lv_topl (fun x_3 ex_3 => ?_)
    have ex_3 : x_3 = sf tp := ex_3.trans (congrArg sf (nI_clamp (n := tp) (by omega)))
    subst ex_3
    refine lv_lstore_n (lv' := [(2, .long (sf tp)), (0, .ref h0), (1, .int 48)]) hx hb dX1_two_28 rfl hl (by decide) rfl (fun ls hl => ?_)
    refine lv_aload_n hx hb dX1_two_29 rfl (lv_at hl 1 rfl) ?_
    refine va_get (D := (dC, dI)) (ci := 2) (v := .ref hS1) (C := RX1) (T := TX1) (N := 13) hx hb hts (fun w h => List.mem_cons_of_mem _ (uG_X1 w h)) hown hK hP 0 rfl rfl 10 (by decide) (hts _ (List.mem_cons_of_mem _ kw_398)) (fun _ h9 => h9) rfl dX1_two_30 ?_
    refine lv_aload_n hx hb dX1_two_33 rfl (lv_at hl 1 rfl) ?_
    refine va_get (D := (dC, dI)) (ci := 2) (v := .int (nI tp)) (C := RX1) (T := TX1) (N := 13) hx hb hts (fun w h => List.mem_cons_of_mem _ (uG_X1 w h)) hown hK hP 0 rfl rfl 12 (by decide) (hts _ (List.mem_cons_of_mem _ kw_400)) (fun _ h9 => h9) rfl dX1_two_34 ?_
    refine lv_iconst (v := 1) hx hb dX1_two_37 (by decide) ?_
    refine lv_iadd hx hb dX1_two_38 ?_
    refine lv_topi (fun x_4 ex_4 => ?_)
    have ex_4 : x_4 = nI (tp + 1) := ex_4.trans (nI_add tp 1)
    subst ex_4
    refine va_lald hx hb hK hP 1 2 rfl rfl (i := (nI (tp + 1))) (vp_in_nI (n := tp + 1) (N := N) (by omega) (by omega)) dX1_two_39 ?_
    refine lv_topl (fun x_5 ex_5 => ?_)
    have ex_5 : x_5 = sf (tp + 1) := ex_5.trans (congrArg sf (nI_clamp (n := tp + 1) (by omega)))
    subst ex_5
    refine lv_lstore (lv' := [(4, .long (sf (tp + 1))), (2, .long (sf tp)), (0, .ref h0), (1, .int 48)]) hx hb dX1_two_40 hl (by decide) rfl (fun ls hl => ?_)
    have mg_6 : ∀ (H : Heap) (locs : List Loc), va_P (dC, dI) vwCl [(h0, .inr (2, [.int sz1, k1, k2, k3, k4, k5, k6, k7, k8, k9, .ref hS1, .ref hB1, .int (nI tp)])), (hS1, .inl (cJ, N, .inr (.inl sf))), (hB1, .inl (cB, N, .inl bf))] H → va_D A [(h0, .inr (2, [.int sz1, k1, k2, k3, k4, k5, k6, k7, k8, k9, .ref hS1, .ref hB1, .int (nI tp)])), (hS1, .inl (cJ, N, .inr (.inl sf))), (hB1, .inl (cB, N, .inl bf))] → va_S A s.heap H locs → W p l e (headSpec (wsOf yX1_two cX1_two 10 none) ({ frames := 1, cells := 0, slots := 0, locals := 24 })).room s m ([.ref h0, .int 48] : List Value).toArray below meth c H locs 0 0 (MQ below (qc_t_two_slash dC dI cB cI cJ cZ h0 hS1 hB1 sz1 k1 k2 k3 k4 k5 k6 k7 k8 k9 N sf bf tp A) ([.ref h0, .int 48] : List Value).toArray s 0 0 A) (F0 m 59 ls [.int (thI (bf tp))]) := by
      intro H locs hP hD hS
      refine lv_istore (lv' := [(6, .int (thI (bf tp))), (4, .long (sf (tp + 1))), (2, .long (sf tp)), (0, .ref h0), (1, .int 48)]) hx hb dX1_two_59 hl (by decide) rfl (fun ls hl => ?_)
      have mg_7 : ∀ (H : Heap) (locs : List Loc), va_P (dC, dI) vwCl [(h0, .inr (2, [.int sz1, k1, k2, k3, k4, k5, k6, k7, k8, k9, .ref hS1, .ref hB1, .int (nI tp)])), (hS1, .inl (cJ, N, .inr (.inl sf))), (hB1, .inl (cB, N, .inl bf))] H → va_D A [(h0, .inr (2, [.int sz1, k1, k2, k3, k4, k5, k6, k7, k8, k9, .ref hS1, .ref hB1, .int (nI tp)])), (hS1, .inl (cJ, N, .inr (.inl sf))), (hB1, .inl (cB, N, .inl bf))] → va_S A s.heap H locs → W p l e (headSpec (wsOf yX1_two cX1_two 10 none) ({ frames := 1, cells := 0, slots := 0, locals := 24 })).room s m ([.ref h0, .int 48] : List Value).toArray below meth c H locs 0 0 (MQ below (qc_t_two_slash dC dI cB cI cJ cZ h0 hS1 hB1 sz1 k1 k2 k3 k4 k5 k6 k7 k8 k9 N sf bf tp A) ([.ref h0, .int 48] : List Value).toArray s 0 0 A) (F0 m 80 ls [.int (thI (bf (tp + 1)))]) := by
        intro H locs hP hD hS
        refine lv_istore (lv' := [(7, .int (thI (bf (tp + 1)))), (6, .int (thI (bf tp))), (4, .long (sf (tp + 1))), (2, .long (sf tp)), (0, .ref h0), (1, .int 48)]) hx hb dX1_two_80 hl (by decide) rfl (fun ls hl => ?_)
        refine lv_iload_n hx hb dX1_two_82 rfl (lv_at hl 5 rfl) ?_
        refine lv_bipush (v := 28) hx hb dX1_two_83 (by decide) ?_
        refine lv_icmp_eq (tgt := 94) hx hb dX1_two_85 (by decide) (fun c_8 => ?_) (fun c_8 => ?_)
        · skip
          exact absurd c_8 (by decide)
        · skip
          refine lv_iload_n hx hb dX1_two_88 rfl (lv_at hl 5 rfl) ?_
          refine lv_bipush (v := 29) hx hb dX1_two_89 (by decide) ?_
          refine lv_icmp_ne (tgt := 182) hx hb dX1_two_91 (by decide) (fun c_9 => ?_) (fun c_9 => ?_)
          · skip
            have mg_10 : ∀ (H : Heap) (locs : List Loc), va_P (dC, dI) vwCl [(h0, .inr (2, [.int sz1, k1, k2, k3, k4, k5, k6, k7, k8, k9, .ref hS1, .ref hB1, .int (nI tp)])), (hS1, .inl (cJ, N, .inr (.inl sf))), (hB1, .inl (cB, N, .inl bf))] H → va_D A [(h0, .inr (2, [.int sz1, k1, k2, k3, k4, k5, k6, k7, k8, k9, .ref hS1, .ref hB1, .int (nI tp)])), (hS1, .inl (cJ, N, .inr (.inl sf))), (hB1, .inl (cB, N, .inl bf))] → va_S A s.heap H locs → W p l e (headSpec (wsOf yX1_two cX1_two 10 none) ({ frames := 1, cells := 0, slots := 0, locals := 24 })).room s m ([.ref h0, .int 48] : List Value).toArray below meth c H locs 0 0 (MQ below (qc_t_two_slash dC dI cB cI cJ cZ h0 hS1 hB1 sz1 k1 k2 k3 k4 k5 k6 k7 k8 k9 N sf bf tp A) ([.ref h0, .int 48] : List Value).toArray s 0 0 A) (F0 m 206 ls [.int (knS (bf tp) (bf (tp + 1)) (sf (tp + 1)))]) := by
              intro H locs hP hD hS
              refine lv_istore (lv' := [(8, .int (knS (bf tp) (bf (tp + 1)) (sf (tp + 1)))), (7, .int (thI (bf (tp + 1)))), (6, .int (thI (bf tp))), (4, .long (sf (tp + 1))), (2, .long (sf tp)), (0, .ref h0), (1, .int 48)]) hx hb dX1_two_206 hl (by decide) rfl (fun ls hl => ?_)
              refine lv_aload_n hx hb dX1_two_208 rfl (lv_at hl 5 rfl) ?_
              have mg_11 : ∀ (H : Heap) (locs : List Loc), va_P (dC, dI) vwCl [(h0, .inr (2, [.int sz1, k1, k2, k3, k4, k5, k6, k7, k8, k9, .ref hS1, .ref hB1, .int (nI tp)])), (hS1, .inl (cJ, N, .inr (.inl sf))), (hB1, .inl (cB, N, .inl bf))] H → va_D A [(h0, .inr (2, [.int sz1, k1, k2, k3, k4, k5, k6, k7, k8, k9, .ref hS1, .ref hB1, .int (nI tp)])), (hS1, .inl (cJ, N, .inr (.inl sf))), (hB1, .inl (cB, N, .inl bf))] → va_S A s.heap H locs → W p l e (headSpec (wsOf yX1_two cX1_two 10 none) ({ frames := 1, cells := 0, slots := 0, locals := 24 })).room s m ([.ref h0, .int 48] : List Value).toArray below meth c H locs 0 0 (MQ below (qc_t_two_slash dC dI cB cI cJ cZ h0 hS1 hB1 sz1 k1 k2 k3 k4 k5 k6 k7 k8 k9 N sf bf tp A) ([.ref h0, .int 48] : List Value).toArray s 0 0 A) (F0 m 225 ls [.long (kvI (knS (bf tp) (bf (tp + 1)) (sf (tp + 1))) (dvS (sf tp) (sf (tp + 1)))), .ref h0]) := by
                intro H locs hP hD hS
                have mg_12 : ∀ (H : Heap) (locs : List Loc), va_P (dC, dI) vwCl [(h0, .inr (2, [.int sz1, k1, k2, k3, k4, k5, k6, k7, k8, k9, .ref hS1, .ref hB1, .int (nI tp)])), (hS1, .inl (cJ, N, .inr (.inl sf))), (hB1, .inl (cB, N, .inl bf))] H → va_D A [(h0, .inr (2, [.int sz1, k1, k2, k3, k4, k5, k6, k7, k8, k9, .ref hS1, .ref hB1, .int (nI tp)])), (hS1, .inl (cJ, N, .inr (.inl sf))), (hB1, .inl (cB, N, .inl bf))] → va_S A s.heap H locs → W p l e (headSpec (wsOf yX1_two cX1_two 10 none) ({ frames := 1, cells := 0, slots := 0, locals := 24 })).room s m ([.ref h0, .int 48] : List Value).toArray below meth c H locs 0 0 (MQ below (qc_t_two_slash dC dI cB cI cJ cZ h0 hS1 hB1 sz1 k1 k2 k3 k4 k5 k6 k7 k8 k9 N sf bf tp A) ([.ref h0, .int 48] : List Value).toArray s 0 0 A) (F0 m 235 ls [.int (nbI (knS (bf tp) (bf (tp + 1)) (sf (tp + 1)))), .long (kvI (knS (bf tp) (bf (tp + 1)) (sf (tp + 1))) (dvS (sf tp) (sf (tp + 1)))), .ref h0]) := by
                  intro H locs hP hD hS
                  have hPc := hP.sub (ws' := [(h0, .inr (2, [.int sz1, k1, k2, k3, k4, k5, k6, k7, k8, k9, .ref hS1, .ref hB1, .int (nI tp)])), (hS1, .inl (cJ, N, .inr (.inl sf))), (hB1, .inl (cB, N, .inl bf))]) [0, 1, 2] rfl
                  have hDc := hD.sub (ws' := [(h0, .inr (2, [.int sz1, k1, k2, k3, k4, k5, k6, k7, k8, k9, .ref hS1, .ref hB1, .int (nI tp)])), (hS1, .inl (cJ, N, .inr (.inl sf))), (hB1, .inl (cB, N, .inl bf))]) [0, 1, 2] (by decide) rfl
                  have hKc := hK.sub (tys' := [(cB, .byte), (cI, .int), (cJ, .long), (cZ, .boolean)]) [0, 1, 2, 3] rfl
                  have hFc := va_free (wc := [(h0, .inr (2, [.int sz1, k1, k2, k3, k4, k5, k6, k7, k8, k9, .ref hS1, .ref hB1, .int (nI tp)])), (hS1, .inl (cJ, N, .inr (.inl sf))), (hB1, .inl (cB, N, .inl bf))]) hD hS hA [0, 1, 2] rfl
                  refine va_callv (va_runV (As := [.long (kvI (knS (bf tp) (bf (tp + 1)) (sf (tp + 1))) (dvS (sf tp) (sf (tp + 1)))), .int (nbI (knS (bf tp) (bf (tp + 1)) (sf (tp + 1))))]) (rest := []) ⟨hx, hb, hml, hown, hts⟩ (t_X1_push l dC dI H.size cB cI cJ cZ h0 hS1 hB1 sz1 k1 k2 k3 k4 k5 k6 k7 k8 k9 N sf bf tp (kvI (knS (bf tp) (bf (tp + 1)) (sf (tp + 1))) (dvS (sf tp) (sf (tp + 1)))) (nbI (knS (bf tp) (bf (tp + 1)) (sf (tp + 1)))) (by omega) (by omega)) (cwV 2 hts (gd_all (in_V kw_1415 kw_1417 kw_73 kw_189 kc_X1_push)) rfl rfl rfl (by decide +kernel) ⟨Nat.le_of_ble_eq_true rfl, Nat.le_of_ble_eq_true rfl⟩) ⟨fun a U g mk q => by obtain ⟨q0, q1, qP, qK, qD⟩ := q; exact ⟨q0, q1, qP, va_K.moved (u := U) (U := U.calling g mk a) (Vm.Alike.refl U.vm) qK, qD⟩, va_recv hKc hPc (ci := 2) (q0 := 0) rfl rfl, fun U hU hW => ⟨rfl, by rw [hU], by rw [hU]; exact hPc, va_K.moved hW.alike hKc, hDc.weaken (fun _ _ _ _ => trivial)⟩⟩ rfl rfl hl.1 rfl (lv_room (Nat.le_of_ble_eq_true rfl)) dX1_two_235 ⟨Nat.le_of_ble_eq_true rfl, Nat.le_of_ble_eq_true rfl⟩) hS (fun q _ h => hFc q h) hFc (fun u t_ H1 locs ht hvm hw hB hz1 hk1 hS => ?_)
                  obtain ⟨hP1, hK1, hD1⟩ := hB
                  rw [ht] at hP1
                  have hK1 := va_K.moved hvm.symm hK1
                  obtain ⟨hP, hD⟩ := va_join (wr := []) (w1 := [(h0, .inr (2, [.int sz1, k1, k2, k3, k4, k5, k6, k7, k8, k9, .ref hS1, .ref hB1, .int (nI (tp + 1))])), (hS1, .inl (cJ, N, .inr (.inl (vp_updL sf tp (pv (kvI (knS (bf tp) (bf (tp + 1)) (sf (tp + 1))) (dvS (sf tp) (sf (tp + 1)))) (nbI (knS (bf tp) (bf (tp + 1)) (sf (tp + 1))))))))), (hB1, .inl (cB, N, .inl (upd bf tp (pb (nbI (knS (bf tp) (bf (tp + 1)) (sf (tp + 1))))))))]) hP hD [0, 1, 2] [] rfl rfl (by decide) (by decide) hk1 hFc hP1 hD1
                  have hK := (hK.sub (tys' := []) [] rfl).app hK1
                  generalize H1 = H at hP hS ⊢
                  have hP : va_P (dC, dI) vwCl [(h0, .inr (2, [.int sz1, k1, k2, k3, k4, k5, k6, k7, k8, k9, .ref hS1, .ref hB1, .int (nI (tp + 1))])), (hS1, .inl (cJ, N, .inr (.inl (vp_updL sf tp (pv (kvI (knS (bf tp) (bf (tp + 1)) (sf (tp + 1))) (dvS (sf tp) (sf (tp + 1)))) (nbI (knS (bf tp) (bf (tp + 1)) (sf (tp + 1))))))))), (hB1, .inl (cB, N, .inl (upd bf tp (pb (nbI (knS (bf tp) (bf (tp + 1)) (sf (tp + 1))))))))] H := hP
                  have hD : va_D A [(h0, .inr (2, [.int sz1, k1, k2, k3, k4, k5, k6, k7, k8, k9, .ref hS1, .ref hB1, .int (nI (tp + 1))])), (hS1, .inl (cJ, N, .inr (.inl (vp_updL sf tp (pv (kvI (knS (bf tp) (bf (tp + 1)) (sf (tp + 1))) (dvS (sf tp) (sf (tp + 1)))) (nbI (knS (bf tp) (bf (tp + 1)) (sf (tp + 1))))))))), (hB1, .inl (cB, N, .inl (upd bf tp (pb (nbI (knS (bf tp) (bf (tp + 1)) (sf (tp + 1))))))))] := hD
                  have hK : va_K (dC, dI) vwCl [(cB, .byte), (cI, .int), (cJ, .long), (cZ, .boolean)] s := hK
                  have hP9 := hP.sub (ws' := [(h0, .inr (2, [.int sz1, k1, k2, k3, k4, k5, k6, k7, k8, k9, .ref hS1, .ref hB1, .int (nI (tp + 1))])), (hS1, .inl (cJ, N, .inr (.inl (vp_updL sf tp (pv (kvI (knS (bf tp) (bf (tp + 1)) (sf (tp + 1))) (dvS (sf tp) (sf (tp + 1)))) (nbI (knS (bf tp) (bf (tp + 1)) (sf (tp + 1))))))))), (hB1, .inl (cB, N, .inl (upd bf tp (pb (nbI (knS (bf tp) (bf (tp + 1)) (sf (tp + 1))))))))]) [0, 1, 2] rfl
                  have hD9 := hD.sub (ws' := [(h0, .inr (2, [.int sz1, k1, k2, k3, k4, k5, k6, k7, k8, k9, .ref hS1, .ref hB1, .int (nI (tp + 1))])), (hS1, .inl (cJ, N, .inr (.inl (vp_updL sf tp (pv (kvI (knS (bf tp) (bf (tp + 1)) (sf (tp + 1))) (dvS (sf tp) (sf (tp + 1)))) (nbI (knS (bf tp) (bf (tp + 1)) (sf (tp + 1))))))))), (hB1, .inl (cB, N, .inl (upd bf tp (pb (nbI (knS (bf tp) (bf (tp + 1)) (sf (tp + 1))))))))]) [0, 1, 2] (by decide) rfl
                  have hK9 := hK.sub (tys' := [(cB, .byte), (cI, .int), (cJ, .long), (cZ, .boolean)]) [0, 1, 2, 3] rfl
                  exact W.vret hx hb hr (fun t_ ht hW => ⟨⟨(), rfl, trivial, by rw [ht]; exact hP9, va_K.moved hW.alike hK9, hD9⟩, hS.F ht⟩) hS.2.2 dX1_two_238
                refine lv_iload hx hb dX1_two_225 (lv_at hl 0 rfl) ?_
                refine lv_if_eq (tgt := 234) hx hb dX1_two_227 (by decide) (fun c_14 => ?_) (fun c_14 => ?_)
                · skip
                  refine lv_iconst (v := 1) hx hb dX1_two_234 (by decide) ?_
                  exact W.eq (by unfold nbI; rw [if_pos c_14]) (mg_12 _ _ hP hD hS)
                · skip
                  refine lv_iconst (v := 0) hx hb dX1_two_230 (by decide) ?_
                  refine lv_goto (tgt := 235) hx hb dX1_two_231 (by decide) ?_
                  exact W.eq (by unfold nbI; rw [if_neg c_14]) (mg_12 _ _ hP hD hS)
              refine lv_iload hx hb dX1_two_209 (lv_at hl 0 rfl) ?_
              refine lv_if_eq (tgt := 224) hx hb dX1_two_211 (by decide) (fun c_15 => ?_) (fun c_15 => ?_)
              · skip
                refine lv_lconst (v := 0) hx hb dX1_two_224 (by decide) ?_
                exact W.eq (by unfold kvI; rw [if_pos c_15]) (mg_11 _ _ hP hD hS)
              · skip
                refine lv_iload_n hx hb dX1_two_214 rfl (lv_at hl 6 rfl) ?_
                refine lv_lload_n hx hb dX1_two_215 rfl (lv_at hl 4 rfl) ?_
                refine lv_lload hx hb dX1_two_216 (lv_at hl 3 rfl) ?_
                have hPc := hP.sub (ws' := []) [] rfl
                have hDc := hD.sub (ws' := []) [] (by decide) rfl
                have hKc := hK.sub (tys' := [(cB, .byte), (cI, .int), (cJ, .long), (cZ, .boolean)]) [0, 1, 2, 3] rfl
                have hFc := va_free (wc := []) hD hS hA [] rfl
                refine va_calll (va_runS (As := [.int 48, .long (sf tp), .long (sf (tp + 1))]) (rest := [.ref h0]) ⟨hx, hb, hml, hown, hts⟩ (t_reckon_slash l dC dI H.size cB cI cJ cZ (sf tp) (sf (tp + 1))) ⟨callB_of 3 hts (gd_all (in_I kc_X1_reckon)) rfl rfl rfl (hts _ (List.mem_cons_of_mem _ kw_189)) (hts _ (List.mem_cons_of_mem _ kw_1446)) (by decide +kernel) ⟨Nat.le_of_ble_eq_true rfl, Nat.le_of_ble_eq_true rfl⟩, hts _ (List.mem_cons_of_mem _ kw_1447)⟩ ⟨fun a U g mk q => by obtain ⟨q0, q1, qP, qK, qD⟩ := q; exact ⟨q0, q1, qP, va_K.moved (u := U) (U := U.calling g mk a) (Vm.Alike.refl U.vm) qK, qD⟩, fun U hU hW => ⟨rfl, by rw [hU], by rw [hU]; exact hPc, va_K.moved hW.alike hKc, hDc.weaken (fun _ _ _ _ => trivial)⟩⟩ rfl rfl hl.1 rfl (lv_room (Nat.le_of_ble_eq_true rfl)) dX1_two_218 ⟨Nat.le_of_ble_eq_true rfl, Nat.le_of_ble_eq_true rfl⟩) hS (fun q _ h => hFc q h) hFc (fun r_16 u t_ H1 locs ht hvm hw hB hz1 hk1 hS => ?_)
                obtain ⟨hP1, hK1, hD1⟩ := hB
                rw [ht] at hP1
                have hK1 := va_K.moved hvm.symm hK1
                obtain ⟨hP, hD⟩ := va_join (wr := [(h0, .inr (2, [.int sz1, k1, k2, k3, k4, k5, k6, k7, k8, k9, .ref hS1, .ref hB1, .int (nI tp)])), (hS1, .inl (cJ, N, .inr (.inl sf))), (hB1, .inl (cB, N, .inl bf))]) (w1 := []) hP hD [] [0, 1, 2] rfl rfl (by decide) (by decide) hk1 hFc hP1 hD1
                have hK := (hK.sub (tys' := []) [] rfl).app hK1
                generalize H1 = H at hP hS ⊢
                have hP : va_P (dC, dI) vwCl [(h0, .inr (2, [.int sz1, k1, k2, k3, k4, k5, k6, k7, k8, k9, .ref hS1, .ref hB1, .int (nI tp)])), (hS1, .inl (cJ, N, .inr (.inl sf))), (hB1, .inl (cB, N, .inl bf))] H := hP
                have hD : va_D A [(h0, .inr (2, [.int sz1, k1, k2, k3, k4, k5, k6, k7, k8, k9, .ref hS1, .ref hB1, .int (nI tp)])), (hS1, .inl (cJ, N, .inr (.inl sf))), (hB1, .inl (cB, N, .inl bf))] := hD
                have hK : va_K (dC, dI) vwCl [(cB, .byte), (cI, .int), (cJ, .long), (cZ, .boolean)] s := hK
                have er_16 : r_16 = dvS (sf tp) (sf (tp + 1)) := hw
                rw [er_16]
                refine lv_goto (tgt := 225) hx hb dX1_two_221 (by decide) ?_
                exact W.eq (by unfold kvI; rw [if_neg c_15]) (mg_11 _ _ hP hD hS)
            refine lv_iload hx hb dX1_two_182 (lv_at hl 1 rfl) ?_
            refine lv_if_eq (tgt := 205) hx hb dX1_two_184 (by decide) (fun c_17 => ?_) (fun c_17 => ?_)
            · skip
              refine lv_iconst (v := 0) hx hb dX1_two_205 (by decide) ?_
              exact W.eq (by unfold knS; rw [if_pos c_17]) (mg_10 _ _ hP hD hS)
            · skip
              refine lv_iload hx hb dX1_two_187 (lv_at hl 0 rfl) ?_
              refine lv_if_eq (tgt := 205) hx hb dX1_two_189 (by decide) (fun c_18 => ?_) (fun c_18 => ?_)
              · skip
                refine lv_iconst (v := 0) hx hb dX1_two_205 (by decide) ?_
                exact W.eq (by unfold knS; rw [if_neg c_17, if_pos c_18]) (mg_10 _ _ hP hD hS)
              · skip
                refine lv_iload_n hx hb dX1_two_192 rfl (lv_at hl 5 rfl) ?_
                refine lv_lload hx hb dX1_two_193 (lv_at hl 2 rfl) ?_
                have hPc := hP.sub (ws' := []) [] rfl
                have hDc := hD.sub (ws' := []) [] (by decide) rfl
                have hKc := hK.sub (tys' := [(cB, .byte), (cI, .int), (cJ, .long), (cZ, .boolean)]) [0, 1, 2, 3] rfl
                have hFc := va_free (wc := []) hD hS hA [] rfl
                refine va_calli (va_runS (As := [.int 48, .long (sf (tp + 1))]) (rest := []) ⟨hx, hb, hml, hown, hts⟩ (t_hasResult_slash l dC dI H.size cB cI cJ cZ (sf (tp + 1))) ⟨callB_of 2 hts (gd_all (in_I kc_X1_hasResult)) rfl rfl rfl (hts _ (List.mem_cons_of_mem _ kw_189)) (hts _ (List.mem_cons_of_mem _ kw_1443)) (by decide +kernel) ⟨Nat.le_of_ble_eq_true rfl, Nat.le_of_ble_eq_true rfl⟩, hts _ (List.mem_cons_of_mem _ kw_1444)⟩ ⟨fun a U g mk q => by obtain ⟨q0, q1, qP, qK, qD⟩ := q; exact ⟨q0, q1, qP, va_K.moved (u := U) (U := U.calling g mk a) (Vm.Alike.refl U.vm) qK, qD⟩, fun U hU hW => ⟨rfl, by rw [hU], by rw [hU]; exact hPc, va_K.moved hW.alike hKc, hDc.weaken (fun _ _ _ _ => trivial)⟩⟩ rfl rfl hl.1 rfl (lv_room (Nat.le_of_ble_eq_true rfl)) dX1_two_195 ⟨Nat.le_of_ble_eq_true rfl, Nat.le_of_ble_eq_true rfl⟩) hS (fun q _ h => hFc q h) hFc (fun r_19 u t_ H1 locs ht hvm hw hB hz1 hk1 hS => ?_)
                obtain ⟨hP1, hK1, hD1⟩ := hB
                rw [ht] at hP1
                have hK1 := va_K.moved hvm.symm hK1
                obtain ⟨hP, hD⟩ := va_join (wr := [(h0, .inr (2, [.int sz1, k1, k2, k3, k4, k5, k6, k7, k8, k9, .ref hS1, .ref hB1, .int (nI tp)])), (hS1, .inl (cJ, N, .inr (.inl sf))), (hB1, .inl (cB, N, .inl bf))]) (w1 := []) hP hD [] [0, 1, 2] rfl rfl (by decide) (by decide) hk1 hFc hP1 hD1
                have hK := (hK.sub (tys' := []) [] rfl).app hK1
                generalize H1 = H at hP hS ⊢
                have hP : va_P (dC, dI) vwCl [(h0, .inr (2, [.int sz1, k1, k2, k3, k4, k5, k6, k7, k8, k9, .ref hS1, .ref hB1, .int (nI tp)])), (hS1, .inl (cJ, N, .inr (.inl sf))), (hB1, .inl (cB, N, .inl bf))] H := hP
                have hD : va_D A [(h0, .inr (2, [.int sz1, k1, k2, k3, k4, k5, k6, k7, k8, k9, .ref hS1, .ref hB1, .int (nI tp)])), (hS1, .inl (cJ, N, .inr (.inl sf))), (hB1, .inl (cB, N, .inl bf))] := hD
                have hK : va_K (dC, dI) vwCl [(cB, .byte), (cI, .int), (cJ, .long), (cZ, .boolean)] s := hK
                have er_19 : r_19 = hrS (sf (tp + 1)) := hw
                rw [er_19]
                refine lv_if_eq (tgt := 205) hx hb dX1_two_198 (by decide) (fun c_20 => ?_) (fun c_20 => ?_)
                · skip
                  refine lv_iconst (v := 0) hx hb dX1_two_205 (by decide) ?_
                  exact W.eq (by unfold knS; rw [if_neg c_17, if_neg c_18, if_pos c_20]) (mg_10 _ _ hP hD hS)
                · skip
                  refine lv_iconst (v := 1) hx hb dX1_two_201 (by decide) ?_
                  refine lv_goto (tgt := 206) hx hb dX1_two_202 (by decide) ?_
                  exact W.eq (by unfold knS; rw [if_neg c_17, if_neg c_18, if_neg c_20]) (mg_10 _ _ hP hD hS)
          · skip
            exact absurd c_9 (by decide)
      refine lv_aload_n hx hb dX1_two_61 rfl (lv_at hl 3 rfl) ?_
      refine va_get (D := (dC, dI)) (ci := 2) (v := .ref hB1) (C := RX1) (T := TX1) (N := 13) hx hb hts (fun w h => List.mem_cons_of_mem _ (uG_X1 w h)) hown hK hP 0 rfl rfl 11 (by decide) (hts _ (List.mem_cons_of_mem _ kw_399)) (fun _ h9 => h9) rfl dX1_two_62 ?_
      refine lv_aload_n hx hb dX1_two_65 rfl (lv_at hl 3 rfl) ?_
      refine va_get (D := (dC, dI)) (ci := 2) (v := .int (nI tp)) (C := RX1) (T := TX1) (N := 13) hx hb hts (fun w h => List.mem_cons_of_mem _ (uG_X1 w h)) hown hK hP 0 rfl rfl 12 (by decide) (hts _ (List.mem_cons_of_mem _ kw_400)) (fun _ h9 => h9) rfl dX1_two_66 ?_
      refine lv_iconst (v := 1) hx hb dX1_two_69 (by decide) ?_
      refine lv_iadd hx hb dX1_two_70 ?_
      refine lv_topi (fun x_21 ex_21 => ?_)
      have ex_21 : x_21 = nI (tp + 1) := ex_21.trans (nI_add tp 1)
      subst ex_21
      refine va_bald hx hb hK hP 2 0 rfl rfl (i := (nI (tp + 1))) (vp_in_nI (n := tp + 1) (N := N) (by omega) (by omega)) dX1_two_71 ?_
      refine lv_topi (fun x_22 ex_22 => ?_)
      have ex_22 : x_22 = bf (tp + 1) := ex_22.trans (congrArg bf (nI_clamp (n := tp + 1) (by omega)))
      subst ex_22
      refine lv_if_ne (tgt := 79) hx hb dX1_two_72 (by decide) (fun c_23 => ?_) (fun c_23 => ?_)
      · skip
        refine lv_iconst (v := 0) hx hb dX1_two_79 (by decide) ?_
        exact W.eq (by unfold thI; rw [if_neg c_23]) (mg_7 _ _ hP hD hS)
      · skip
        refine lv_iconst (v := 1) hx hb dX1_two_75 (by decide) ?_
        refine lv_goto (tgt := 80) hx hb dX1_two_76 (by decide) ?_
        exact W.eq (by unfold thI; rw [if_pos c_23]) (mg_7 _ _ hP hD hS)
    refine lv_aload_n hx hb dX1_two_42 rfl (lv_at hl 2 rfl) ?_
    refine va_get (D := (dC, dI)) (ci := 2) (v := .ref hB1) (C := RX1) (T := TX1) (N := 13) hx hb hts (fun w h => List.mem_cons_of_mem _ (uG_X1 w h)) hown hK hP 0 rfl rfl 11 (by decide) (hts _ (List.mem_cons_of_mem _ kw_399)) (fun _ h9 => h9) rfl dX1_two_43 ?_
    refine lv_aload_n hx hb dX1_two_46 rfl (lv_at hl 2 rfl) ?_
    refine va_get (D := (dC, dI)) (ci := 2) (v := .int (nI tp)) (C := RX1) (T := TX1) (N := 13) hx hb hts (fun w h => List.mem_cons_of_mem _ (uG_X1 w h)) hown hK hP 0 rfl rfl 12 (by decide) (hts _ (List.mem_cons_of_mem _ kw_400)) (fun _ h9 => h9) rfl dX1_two_47 ?_
    refine va_bald hx hb hK hP 2 0 rfl rfl (i := (nI tp)) (vp_in_nI (n := tp) (N := N) (by omega) (by omega)) dX1_two_50 ?_
    refine lv_topi (fun x_24 ex_24 => ?_)
    have ex_24 : x_24 = bf tp := ex_24.trans (congrArg bf (nI_clamp (n := tp) (by omega)))
    subst ex_24
    refine lv_if_ne (tgt := 58) hx hb dX1_two_51 (by decide) (fun c_25 => ?_) (fun c_25 => ?_)
    · skip
      refine lv_iconst (v := 0) hx hb dX1_two_58 (by decide) ?_
      exact W.eq (by unfold thI; rw [if_neg c_25]) (mg_6 _ _ hP hD hS)
    · skip
      refine lv_iconst (v := 1) hx hb dX1_two_54 (by decide) ?_
      refine lv_goto (tgt := 59) hx hb dX1_two_55 (by decide) ?_
      exact W.eq (by unfold thI; rw [if_pos c_25]) (mg_6 _ _ hP hD hS)
  · skip
    have c_1 : ¬ (2 ≤ tp + 2) := fun h => c_1 ((nI_leI (a := 2) (b := tp + 2) (by omega) (by omega)).mpr h)
    exact absurd (show 2 ≤ tp + 2 by omega) c_1
abbrev cs_t_reckon_percent (cB cI cJ cZ : ClassId) (x y : Int64) : va_W := []
abbrev pc_t_reckon_percent (dC : Nat → ClassId) (dI : Nat → Nat → Nat) (sz : Nat) (cB cI cJ cZ : ClassId) (x y : Int64) : Array Value → State → Prop := va_Pc [.int 49, .long x, .long y] (fun U => U.heap.size = sz ∧ va_P (dC, dI) vwCl [] U.heap ∧ va_K (dC, dI) vwCl [(cB, .byte), (cI, .int), (cJ, .long), (cZ, .boolean)] U ∧ va_D (fun _ => True) [])
abbrev qc_t_reckon_percent (dC : Nat → ClassId) (dI : Nat → Nat → Nat) (cB cI cJ cZ : ClassId) (x y : Int64) (A : Nat → Prop) : Array Value → State → Outcome → State → Prop := va_Ql (fun (r : Int64) (u : Unit) => match u with | _ => r = rmS x y) (fun (u : Unit) t_ => match u with | _ => va_P (dC, dI) vwCl [] t_.heap ∧ va_K (dC, dI) vwCl [(cB, .byte), (cI, .int), (cJ, .long), (cZ, .boolean)] t_ ∧ va_D A []) A
set_option maxHeartbeats 4000000 in
set_option maxRecDepth 100000 in
theorem t_reckon_percent (l : Launch) (dC : Nat → ClassId) (dI : Nat → Nat → Nat) (sz : Nat) (cB cI cJ cZ : ClassId) (x y : Int64)  : Met l yX1_reckon (wsOf yX1_reckon cX1_reckon 5 (some .long)) ({ frames := 0, cells := 0, slots := 0, locals := 0 }) (pc_t_reckon_percent dC dI sz cB cI cJ cZ x y) (qc_t_reckon_percent dC dI cB cI cJ cZ x y (va_A (cs_t_reckon_percent cB cI cJ cZ x y) sz)) 0 0 (va_A (cs_t_reckon_percent cB cI cJ cZ x y) sz) := by
  refine Met.ofW (cc := cX1_reckon) (maxL := 5) (ret := (some .long)) (by decide) rfl ?_
  intro p e s m args below meth c s₁ B hml hv
  obtain ⟨rfl, hsz, hP, hK, hD0⟩ := hv
  have hx := B.exec
  have hb := B.bytes
  have hr := B.returns
  have hts := atoms_spec (ws := (wsOf yX1_reckon cX1_reckon 5 (some .long))) B.pre
  have hown : s.vm.findClass RX1 = some m.cls := findClass_of_methodNamed B.named
  have hlocks := B.notSynchronized
  subst hsz
  have hD := hD0.self (sz := s.heap.size)
  generalize hAe : va_A (cs_t_reckon_percent cB cI cJ cZ x y) s.heap.size = A at hD ⊢
  have hA : ∀ q : Nat, s.heap.size ≤ q → A q := fun q h => by rw [← hAe]; exact Or.inr h
  have hS : va_S A s.heap s.heap [] := va_S.rf
  have hP : va_P (dC, dI) vwCl [] s.heap := hP
  have hl := lv_entry ([.int 49, .long x, .long y]) (n := 5) (Nat.le_of_ble_eq_true rfl)
  rw [lg_entry_eq]
  generalize (lg_sl ([.int 49, .long x, .long y]) ++ List.replicate (5 - (lg_sl ([.int 49, .long x, .long y])).length) Slot.unset).toArray = ls at hl ⊢
  have hl : lv_has ls 5 [(0, .int 49), (1, .long x), (3, .long y)] := hl
  refine lv_iload_n hx hb dX1_reckon_0 rfl (lv_at hl 0 rfl) ?_
  refine lv_tableIn (tgt := 118) (off := 117) hx hb dX1_reckon_1 (by decide) (by decide) (by decide) (by decide) ?_
  refine lv_lload_n hx hb dX1_reckon_118 rfl (lv_at hl 2 rfl) ?_
  refine lv_lconst (v := 0) hx hb dX1_reckon_119 (by decide) ?_
  refine W.lcmp hx hb dX1_reckon_120 ?_
  refine lv_if_ne (tgt := 128) hx hb dX1_reckon_121 (by decide) (fun c_1 => ?_) (fun c_1 => ?_)
  · skip
    have c_1 : ¬ (y = 0) := fun h => c_1 ((lg_cmp_eq y 0).mpr h)
    refine lv_lload_n hx hb dX1_reckon_128 rfl (lv_at hl 1 rfl) ?_
    refine lv_lload_n hx hb dX1_reckon_129 rfl (lv_at hl 2 rfl) ?_
    refine lv_lrem hx hb dX1_reckon_130 c_1 ?_
    have hP9 := hP.sub (ws' := []) [] rfl
    have hD9 := hD.sub (ws' := []) [] (by decide) rfl
    have hK9 := hK.sub (tys' := [(cB, .byte), (cI, .int), (cJ, .long), (cZ, .boolean)]) [0, 1, 2, 3] rfl
    exact W.lret (v := (x - x / y * y)) hx hb hr (fun t_ ht hW => ⟨⟨(x - x / y * y), (), rfl, by unfold rmS; rw [if_neg c_1], by rw [ht]; exact hP9, va_K.moved hW.alike hK9, hD9⟩, hS.F ht⟩) hS.2.2 dX1_reckon_131
  · skip
    have c_1 : y = 0 := (lg_cmp_eq y 0).mp c_1
    refine lv_lconst (v := 0) hx hb dX1_reckon_124 (by decide) ?_
    refine lv_goto (tgt := 131) hx hb dX1_reckon_125 (by decide) ?_
    have hP9 := hP.sub (ws' := []) [] rfl
    have hD9 := hD.sub (ws' := []) [] (by decide) rfl
    have hK9 := hK.sub (tys' := [(cB, .byte), (cI, .int), (cJ, .long), (cZ, .boolean)]) [0, 1, 2, 3] rfl
    exact W.lret (v := 0) hx hb hr (fun t_ ht hW => ⟨⟨0, (), rfl, by unfold rmS; rw [if_pos c_1], by rw [ht]; exact hP9, va_K.moved hW.alike hK9, hD9⟩, hS.F ht⟩) hS.2.2 dX1_reckon_131
abbrev cs_t_hasResult_percent (cB cI cJ cZ : ClassId) (y : Int64) : va_W := []
abbrev pc_t_hasResult_percent (dC : Nat → ClassId) (dI : Nat → Nat → Nat) (sz : Nat) (cB cI cJ cZ : ClassId) (y : Int64) : Array Value → State → Prop := va_Pc [.int 49, .long y] (fun U => U.heap.size = sz ∧ va_P (dC, dI) vwCl [] U.heap ∧ va_K (dC, dI) vwCl [(cB, .byte), (cI, .int), (cJ, .long), (cZ, .boolean)] U ∧ va_D (fun _ => True) [])
abbrev qc_t_hasResult_percent (dC : Nat → ClassId) (dI : Nat → Nat → Nat) (cB cI cJ cZ : ClassId) (y : Int64) (A : Nat → Prop) : Array Value → State → Outcome → State → Prop := va_Qi (fun (r : Int32) (u : Unit) => match u with | _ => r = hrS y) (fun (u : Unit) t_ => match u with | _ => va_P (dC, dI) vwCl [] t_.heap ∧ va_K (dC, dI) vwCl [(cB, .byte), (cI, .int), (cJ, .long), (cZ, .boolean)] t_ ∧ va_D A []) A
set_option maxHeartbeats 4000000 in
set_option maxRecDepth 100000 in
theorem t_hasResult_percent (l : Launch) (dC : Nat → ClassId) (dI : Nat → Nat → Nat) (sz : Nat) (cB cI cJ cZ : ClassId) (y : Int64)  : Met l yX1_hasResult (wsOf yX1_hasResult cX1_hasResult 3 (some .boolean)) ({ frames := 0, cells := 0, slots := 0, locals := 0 }) (pc_t_hasResult_percent dC dI sz cB cI cJ cZ y) (qc_t_hasResult_percent dC dI cB cI cJ cZ y (va_A (cs_t_hasResult_percent cB cI cJ cZ y) sz)) 0 0 (va_A (cs_t_hasResult_percent cB cI cJ cZ y) sz) := by
  refine Met.ofW (cc := cX1_hasResult) (maxL := 3) (ret := (some .boolean)) (by decide) rfl ?_
  intro p e s m args below meth c s₁ B hml hv
  obtain ⟨rfl, hsz, hP, hK, hD0⟩ := hv
  have hx := B.exec
  have hb := B.bytes
  have hr := B.returns
  have hts := atoms_spec (ws := (wsOf yX1_hasResult cX1_hasResult 3 (some .boolean))) B.pre
  have hown : s.vm.findClass RX1 = some m.cls := findClass_of_methodNamed B.named
  have hlocks := B.notSynchronized
  subst hsz
  have hD := hD0.self (sz := s.heap.size)
  generalize hAe : va_A (cs_t_hasResult_percent cB cI cJ cZ y) s.heap.size = A at hD ⊢
  have hA : ∀ q : Nat, s.heap.size ≤ q → A q := fun q h => by rw [← hAe]; exact Or.inr h
  have hS : va_S A s.heap s.heap [] := va_S.rf
  have hP : va_P (dC, dI) vwCl [] s.heap := hP
  have hl := lv_entry ([.int 49, .long y]) (n := 3) (Nat.le_of_ble_eq_true rfl)
  rw [lg_entry_eq]
  generalize (lg_sl ([.int 49, .long y]) ++ List.replicate (3 - (lg_sl ([.int 49, .long y])).length) Slot.unset).toArray = ls at hl ⊢
  have hl : lv_has ls 3 [(0, .int 49), (1, .long y)] := hl
  refine lv_iload_n hx hb dX1_hasResult_0 rfl (lv_at hl 0 rfl) ?_
  refine lv_bipush (v := 48) hx hb dX1_hasResult_1 (by decide) ?_
  refine lv_icmp_eq (tgt := 12) hx hb dX1_hasResult_3 (by decide) (fun c_1 => ?_) (fun c_1 => ?_)
  · skip
    exact absurd c_1 (by decide)
  · skip
    refine lv_iload_n hx hb dX1_hasResult_6 rfl (lv_at hl 0 rfl) ?_
    refine lv_bipush (v := 49) hx hb dX1_hasResult_7 (by decide) ?_
    refine lv_icmp_ne (tgt := 24) hx hb dX1_hasResult_9 (by decide) (fun c_2 => ?_) (fun c_2 => ?_)
    · skip
      exact absurd c_2 (by decide)
    · skip
      refine lv_lload_n hx hb dX1_hasResult_12 rfl (lv_at hl 1 rfl) ?_
      refine lv_lconst (v := 0) hx hb dX1_hasResult_13 (by decide) ?_
      refine W.lcmp hx hb dX1_hasResult_14 ?_
      refine lv_if_eq (tgt := 22) hx hb dX1_hasResult_15 (by decide) (fun c_3 => ?_) (fun c_3 => ?_)
      · skip
        have c_3 : y = 0 := (lg_cmp_eq y 0).mp c_3
        refine lv_iconst (v := 0) hx hb dX1_hasResult_22 (by decide) ?_
        have hP9 := hP.sub (ws' := []) [] rfl
        have hD9 := hD.sub (ws' := []) [] (by decide) rfl
        have hK9 := hK.sub (tys' := [(cB, .byte), (cI, .int), (cJ, .long), (cZ, .boolean)]) [0, 1, 2, 3] rfl
        exact W.zret (v := 0) hx hb hr (by rfl) (fun t_ ht hW => ⟨⟨0, (), rfl, by unfold hrS; rw [if_pos c_3], by rw [ht]; exact hP9, va_K.moved hW.alike hK9, hD9⟩, hS.F ht⟩) hS.2.2 dX1_hasResult_23
      · skip
        have c_3 : ¬ (y = 0) := fun h => c_3 ((lg_cmp_eq y 0).mpr h)
        refine lv_iconst (v := 1) hx hb dX1_hasResult_18 (by decide) ?_
        refine lv_goto (tgt := 23) hx hb dX1_hasResult_19 (by decide) ?_
        have hP9 := hP.sub (ws' := []) [] rfl
        have hD9 := hD.sub (ws' := []) [] (by decide) rfl
        have hK9 := hK.sub (tys' := [(cB, .byte), (cI, .int), (cJ, .long), (cZ, .boolean)]) [0, 1, 2, 3] rfl
        exact W.zret (v := 1) hx hb hr (by rfl) (fun t_ ht hW => ⟨⟨1, (), rfl, by unfold hrS; rw [if_neg c_3], by rw [ht]; exact hP9, va_K.moved hW.alike hK9, hD9⟩, hS.F ht⟩) hS.2.2 dX1_hasResult_23
abbrev cs_t_two_percent (cB cI cJ cZ : ClassId) (h0 hS1 hB1 : Nat) (sz1 : Int32) (k1 k2 k3 k4 k5 k6 k7 k8 k9 : Value) (N : Nat) (sf : Nat → Int64) (bf : Nat → Int32) (tp : Nat) : va_W := [(h0, .inr (2, [.int sz1, k1, k2, k3, k4, k5, k6, k7, k8, k9, .ref hS1, .ref hB1, .int (nI (tp + 2))])), (hS1, .inl (cJ, N, .inr (.inl sf))), (hB1, .inl (cB, N, .inl bf))]
abbrev pc_t_two_percent (dC : Nat → ClassId) (dI : Nat → Nat → Nat) (sz : Nat) (cB cI cJ cZ : ClassId) (h0 hS1 hB1 : Nat) (sz1 : Int32) (k1 k2 k3 k4 k5 k6 k7 k8 k9 : Value) (N : Nat) (sf : Nat → Int64) (bf : Nat → Int32) (tp : Nat) : Array Value → State → Prop := va_Pc [.ref h0, .int 49] (fun U => U.heap.size = sz ∧ va_P (dC, dI) vwCl [(h0, .inr (2, [.int sz1, k1, k2, k3, k4, k5, k6, k7, k8, k9, .ref hS1, .ref hB1, .int (nI (tp + 2))])), (hS1, .inl (cJ, N, .inr (.inl sf))), (hB1, .inl (cB, N, .inl bf))] U.heap ∧ va_K (dC, dI) vwCl [(cB, .byte), (cI, .int), (cJ, .long), (cZ, .boolean)] U ∧ va_D (fun _ => True) [(h0, .inr (2, [.int sz1, k1, k2, k3, k4, k5, k6, k7, k8, k9, .ref hS1, .ref hB1, .int (nI (tp + 2))])), (hS1, .inl (cJ, N, .inr (.inl sf))), (hB1, .inl (cB, N, .inl bf))])
abbrev qc_t_two_percent (dC : Nat → ClassId) (dI : Nat → Nat → Nat) (cB cI cJ cZ : ClassId) (h0 hS1 hB1 : Nat) (sz1 : Int32) (k1 k2 k3 k4 k5 k6 k7 k8 k9 : Value) (N : Nat) (sf : Nat → Int64) (bf : Nat → Int32) (tp : Nat) (A : Nat → Prop) : Array Value → State → Outcome → State → Prop := va_Qv (fun (u : Unit) => match u with | _ => True) (fun (u : Unit) t_ => match u with | _ => va_P (dC, dI) vwCl [(h0, .inr (2, [.int sz1, k1, k2, k3, k4, k5, k6, k7, k8, k9, .ref hS1, .ref hB1, .int (nI (tp + 1))])), (hS1, .inl (cJ, N, .inr (.inl (vp_updL sf tp (pv (kvI (knS (bf tp) (bf (tp + 1)) (sf (tp + 1))) (rmS (sf tp) (sf (tp + 1)))) (nbI (knS (bf tp) (bf (tp + 1)) (sf (tp + 1))))))))), (hB1, .inl (cB, N, .inl (upd bf tp (pb (nbI (knS (bf tp) (bf (tp + 1)) (sf (tp + 1))))))))] t_.heap ∧ va_K (dC, dI) vwCl [(cB, .byte), (cI, .int), (cJ, .long), (cZ, .boolean)] t_ ∧ va_D A [(h0, .inr (2, [.int sz1, k1, k2, k3, k4, k5, k6, k7, k8, k9, .ref hS1, .ref hB1, .int (nI (tp + 1))])), (hS1, .inl (cJ, N, .inr (.inl (vp_updL sf tp (pv (kvI (knS (bf tp) (bf (tp + 1)) (sf (tp + 1))) (rmS (sf tp) (sf (tp + 1)))) (nbI (knS (bf tp) (bf (tp + 1)) (sf (tp + 1))))))))), (hB1, .inl (cB, N, .inl (upd bf tp (pb (nbI (knS (bf tp) (bf (tp + 1)) (sf (tp + 1))))))))]) A
set_option maxHeartbeats 4000000 in
set_option maxRecDepth 100000 in
theorem t_two_percent (l : Launch) (dC : Nat → ClassId) (dI : Nat → Nat → Nat) (sz : Nat) (cB cI cJ cZ : ClassId) (h0 hS1 hB1 : Nat) (sz1 : Int32) (k1 k2 k3 k4 k5 k6 k7 k8 k9 : Value) (N : Nat) (sf : Nat → Int64) (bf : Nat → Int32) (tp : Nat) (hN : N < 1000000) (htp : tp + 2 ≤ N) : Met l yX1_two (wsOf yX1_two cX1_two 10 none) ({ frames := 1, cells := 0, slots := 0, locals := 24 }) (pc_t_two_percent dC dI sz cB cI cJ cZ h0 hS1 hB1 sz1 k1 k2 k3 k4 k5 k6 k7 k8 k9 N sf bf tp) (qc_t_two_percent dC dI cB cI cJ cZ h0 hS1 hB1 sz1 k1 k2 k3 k4 k5 k6 k7 k8 k9 N sf bf tp (va_A (cs_t_two_percent cB cI cJ cZ h0 hS1 hB1 sz1 k1 k2 k3 k4 k5 k6 k7 k8 k9 N sf bf tp) sz)) 0 0 (va_A (cs_t_two_percent cB cI cJ cZ h0 hS1 hB1 sz1 k1 k2 k3 k4 k5 k6 k7 k8 k9 N sf bf tp) sz) := by
  refine Met.ofW (cc := cX1_two) (maxL := 10) (ret := none) (by decide) rfl ?_
  intro p e s m args below meth c s₁ B hml hv
  obtain ⟨rfl, hsz, hP, hK, hD0⟩ := hv
  have hx := B.exec
  have hb := B.bytes
  have hr := B.returns
  have hts := atoms_spec (ws := (wsOf yX1_two cX1_two 10 none)) B.pre
  have hown : s.vm.findClass RX1 = some m.cls := findClass_of_methodNamed B.named
  have hlocks := B.notSynchronized
  subst hsz
  have hD := hD0.self (sz := s.heap.size)
  generalize hAe : va_A (cs_t_two_percent cB cI cJ cZ h0 hS1 hB1 sz1 k1 k2 k3 k4 k5 k6 k7 k8 k9 N sf bf tp) s.heap.size = A at hD ⊢
  have hA : ∀ q : Nat, s.heap.size ≤ q → A q := fun q h => by rw [← hAe]; exact Or.inr h
  have hS : va_S A s.heap s.heap [] := va_S.rf
  have hP : va_P (dC, dI) vwCl [(h0, .inr (2, [.int sz1, k1, k2, k3, k4, k5, k6, k7, k8, k9, .ref hS1, .ref hB1, .int (nI (tp + 2))])), (hS1, .inl (cJ, N, .inr (.inl sf))), (hB1, .inl (cB, N, .inl bf))] s.heap := hP
  have hl := lv_entry ([.ref h0, .int 49]) (n := 10) (Nat.le_of_ble_eq_true rfl)
  rw [lg_entry_eq]
  generalize (lg_sl ([.ref h0, .int 49]) ++ List.replicate (10 - (lg_sl ([.ref h0, .int 49])).length) Slot.unset).toArray = ls at hl ⊢
  have hl : lv_has ls 10 [(0, .ref h0), (1, .int 49)] := hl
  refine lv_aload_n hx hb dX1_two_0 rfl (lv_at hl 0 rfl) ?_
  refine va_get (D := (dC, dI)) (ci := 2) (v := .int (nI (tp + 2))) (C := RX1) (T := TX1) (N := 13) hx hb hts (fun w h => List.mem_cons_of_mem _ (uG_X1 w h)) hown hK hP 0 rfl rfl 12 (by decide) (hts _ (List.mem_cons_of_mem _ kw_400)) (fun _ h9 => h9) rfl dX1_two_1 ?_
  refine lv_iconst (v := 2) hx hb dX1_two_4 (by decide) ?_
  refine lv_icmp_ge (tgt := 9) hx hb dX1_two_5 (by decide) (fun c_1 => ?_) (fun c_1 => ?_)
  · skip
    have c_1 : 2 ≤ tp + 2 := (nI_leI (a := 2) (b := tp + 2) (by omega) (by omega)).mp c_1
    refine lv_aload_n hx hb dX1_two_9 rfl (lv_at hl 0 rfl) ?_
    refine lv_dup hx hb dX1_two_10 rfl ?_
    refine va_get (D := (dC, dI)) (ci := 2) (v := .int (nI (tp + 2))) (C := RX1) (T := TX1) (N := 13) hx hb hts (fun w h => List.mem_cons_of_mem _ (uG_X1 w h)) hown hK hP 0 rfl rfl 12 (by decide) (hts _ (List.mem_cons_of_mem _ kw_400)) (fun _ h9 => h9) rfl dX1_two_11 ?_
    refine lv_iconst (v := 2) hx hb dX1_two_14 (by decide) ?_
    refine lv_isub hx hb dX1_two_15 ?_
    refine lv_topi (fun x_2 ex_2 => ?_)
    have ex_2 : x_2 = nI tp := by exact ex_2.trans (pk_sub (a := tp + 2) (b := 2) (by omega))
    subst ex_2
    refine va_put (D := (dC, dI)) (ci := 2) (v := .int (nI tp)) (ty := .int) (C := RX1) (T := TX1) (N := 13) hx hb hts (fun w h => List.mem_cons_of_mem _ (uG_X1 w h)) tyX1 tyX1_ok nmX1 hown hK hP hD hS 0 rfl rfl 12 (by decide) (hts _ (List.mem_cons_of_mem _ kw_400)) (fun _ h9 => h9) rfl (by decide +kernel) rfl rfl (Nat.le_of_ble_eq_true rfl) dX1_two_16 (fun H locs hP hD hS => ?_)
    have hP : va_P (dC, dI) vwCl [(h0, .inr (2, [.int sz1, k1, k2, k3, k4, k5, k6, k7, k8, k9, .ref hS1, .ref hB1, .int (nI tp)])), (hS1, .inl (cJ, N, .inr (.inl sf))), (hB1, .inl (cB, N, .inl bf))] H := hP
    have hD : va_D A [(h0, .inr (2, [.int sz1, k1, k2, k3, k4, k5, k6, k7, k8, k9, .ref hS1, .ref hB1, .int (nI tp)])), (hS1, .inl (cJ, N, .inr (.inl sf))), (hB1, .inl (cB, N, .inl bf))] := hD
    refine lv_aload_n hx hb dX1_two_19 rfl (lv_at hl 0 rfl) ?_
    refine va_get (D := (dC, dI)) (ci := 2) (v := .ref hS1) (C := RX1) (T := TX1) (N := 13) hx hb hts (fun w h => List.mem_cons_of_mem _ (uG_X1 w h)) hown hK hP 0 rfl rfl 10 (by decide) (hts _ (List.mem_cons_of_mem _ kw_398)) (fun _ h9 => h9) rfl dX1_two_20 ?_
    refine lv_aload_n hx hb dX1_two_23 rfl (lv_at hl 0 rfl) ?_
    refine va_get (D := (dC, dI)) (ci := 2) (v := .int (nI tp)) (C := RX1) (T := TX1) (N := 13) hx hb hts (fun w h => List.mem_cons_of_mem _ (uG_X1 w h)) hown hK hP 0 rfl rfl 12 (by decide) (hts _ (List.mem_cons_of_mem _ kw_400)) (fun _ h9 => h9) rfl dX1_two_24 ?_
    refine va_lald hx hb hK hP 1 2 rfl rfl (i := (nI tp)) (vp_in_nI (n := tp) (N := N) (by omega) (by omega)) dX1_two_27 ?_
    refine lv_topl (fun x_3 ex_3 => ?_)
    have ex_3 : x_3 = sf tp := ex_3.trans (congrArg sf (nI_clamp (n := tp) (by omega)))
    subst ex_3
    refine lv_lstore_n (lv' := [(2, .long (sf tp)), (0, .ref h0), (1, .int 49)]) hx hb dX1_two_28 rfl hl (by decide) rfl (fun ls hl => ?_)
    refine lv_aload_n hx hb dX1_two_29 rfl (lv_at hl 1 rfl) ?_
    refine va_get (D := (dC, dI)) (ci := 2) (v := .ref hS1) (C := RX1) (T := TX1) (N := 13) hx hb hts (fun w h => List.mem_cons_of_mem _ (uG_X1 w h)) hown hK hP 0 rfl rfl 10 (by decide) (hts _ (List.mem_cons_of_mem _ kw_398)) (fun _ h9 => h9) rfl dX1_two_30 ?_
    refine lv_aload_n hx hb dX1_two_33 rfl (lv_at hl 1 rfl) ?_
    refine va_get (D := (dC, dI)) (ci := 2) (v := .int (nI tp)) (C := RX1) (T := TX1) (N := 13) hx hb hts (fun w h => List.mem_cons_of_mem _ (uG_X1 w h)) hown hK hP 0 rfl rfl 12 (by decide) (hts _ (List.mem_cons_of_mem _ kw_400)) (fun _ h9 => h9) rfl dX1_two_34 ?_
    refine lv_iconst (v := 1) hx hb dX1_two_37 (by decide) ?_
    refine lv_iadd hx hb dX1_two_38 ?_
    refine lv_topi (fun x_4 ex_4 => ?_)
    have ex_4 : x_4 = nI (tp + 1) := ex_4.trans (nI_add tp 1)
    subst ex_4
    refine va_lald hx hb hK hP 1 2 rfl rfl (i := (nI (tp + 1))) (vp_in_nI (n := tp + 1) (N := N) (by omega) (by omega)) dX1_two_39 ?_
    refine lv_topl (fun x_5 ex_5 => ?_)
    have ex_5 : x_5 = sf (tp + 1) := ex_5.trans (congrArg sf (nI_clamp (n := tp + 1) (by omega)))
    subst ex_5
    refine lv_lstore (lv' := [(4, .long (sf (tp + 1))), (2, .long (sf tp)), (0, .ref h0), (1, .int 49)]) hx hb dX1_two_40 hl (by decide) rfl (fun ls hl => ?_)
    have mg_6 : ∀ (H : Heap) (locs : List Loc), va_P (dC, dI) vwCl [(h0, .inr (2, [.int sz1, k1, k2, k3, k4, k5, k6, k7, k8, k9, .ref hS1, .ref hB1, .int (nI tp)])), (hS1, .inl (cJ, N, .inr (.inl sf))), (hB1, .inl (cB, N, .inl bf))] H → va_D A [(h0, .inr (2, [.int sz1, k1, k2, k3, k4, k5, k6, k7, k8, k9, .ref hS1, .ref hB1, .int (nI tp)])), (hS1, .inl (cJ, N, .inr (.inl sf))), (hB1, .inl (cB, N, .inl bf))] → va_S A s.heap H locs → W p l e (headSpec (wsOf yX1_two cX1_two 10 none) ({ frames := 1, cells := 0, slots := 0, locals := 24 })).room s m ([.ref h0, .int 49] : List Value).toArray below meth c H locs 0 0 (MQ below (qc_t_two_percent dC dI cB cI cJ cZ h0 hS1 hB1 sz1 k1 k2 k3 k4 k5 k6 k7 k8 k9 N sf bf tp A) ([.ref h0, .int 49] : List Value).toArray s 0 0 A) (F0 m 59 ls [.int (thI (bf tp))]) := by
      intro H locs hP hD hS
      refine lv_istore (lv' := [(6, .int (thI (bf tp))), (4, .long (sf (tp + 1))), (2, .long (sf tp)), (0, .ref h0), (1, .int 49)]) hx hb dX1_two_59 hl (by decide) rfl (fun ls hl => ?_)
      have mg_7 : ∀ (H : Heap) (locs : List Loc), va_P (dC, dI) vwCl [(h0, .inr (2, [.int sz1, k1, k2, k3, k4, k5, k6, k7, k8, k9, .ref hS1, .ref hB1, .int (nI tp)])), (hS1, .inl (cJ, N, .inr (.inl sf))), (hB1, .inl (cB, N, .inl bf))] H → va_D A [(h0, .inr (2, [.int sz1, k1, k2, k3, k4, k5, k6, k7, k8, k9, .ref hS1, .ref hB1, .int (nI tp)])), (hS1, .inl (cJ, N, .inr (.inl sf))), (hB1, .inl (cB, N, .inl bf))] → va_S A s.heap H locs → W p l e (headSpec (wsOf yX1_two cX1_two 10 none) ({ frames := 1, cells := 0, slots := 0, locals := 24 })).room s m ([.ref h0, .int 49] : List Value).toArray below meth c H locs 0 0 (MQ below (qc_t_two_percent dC dI cB cI cJ cZ h0 hS1 hB1 sz1 k1 k2 k3 k4 k5 k6 k7 k8 k9 N sf bf tp A) ([.ref h0, .int 49] : List Value).toArray s 0 0 A) (F0 m 80 ls [.int (thI (bf (tp + 1)))]) := by
        intro H locs hP hD hS
        refine lv_istore (lv' := [(7, .int (thI (bf (tp + 1)))), (6, .int (thI (bf tp))), (4, .long (sf (tp + 1))), (2, .long (sf tp)), (0, .ref h0), (1, .int 49)]) hx hb dX1_two_80 hl (by decide) rfl (fun ls hl => ?_)
        refine lv_iload_n hx hb dX1_two_82 rfl (lv_at hl 5 rfl) ?_
        refine lv_bipush (v := 28) hx hb dX1_two_83 (by decide) ?_
        refine lv_icmp_eq (tgt := 94) hx hb dX1_two_85 (by decide) (fun c_8 => ?_) (fun c_8 => ?_)
        · skip
          exact absurd c_8 (by decide)
        · skip
          refine lv_iload_n hx hb dX1_two_88 rfl (lv_at hl 5 rfl) ?_
          refine lv_bipush (v := 29) hx hb dX1_two_89 (by decide) ?_
          refine lv_icmp_ne (tgt := 182) hx hb dX1_two_91 (by decide) (fun c_9 => ?_) (fun c_9 => ?_)
          · skip
            have mg_10 : ∀ (H : Heap) (locs : List Loc), va_P (dC, dI) vwCl [(h0, .inr (2, [.int sz1, k1, k2, k3, k4, k5, k6, k7, k8, k9, .ref hS1, .ref hB1, .int (nI tp)])), (hS1, .inl (cJ, N, .inr (.inl sf))), (hB1, .inl (cB, N, .inl bf))] H → va_D A [(h0, .inr (2, [.int sz1, k1, k2, k3, k4, k5, k6, k7, k8, k9, .ref hS1, .ref hB1, .int (nI tp)])), (hS1, .inl (cJ, N, .inr (.inl sf))), (hB1, .inl (cB, N, .inl bf))] → va_S A s.heap H locs → W p l e (headSpec (wsOf yX1_two cX1_two 10 none) ({ frames := 1, cells := 0, slots := 0, locals := 24 })).room s m ([.ref h0, .int 49] : List Value).toArray below meth c H locs 0 0 (MQ below (qc_t_two_percent dC dI cB cI cJ cZ h0 hS1 hB1 sz1 k1 k2 k3 k4 k5 k6 k7 k8 k9 N sf bf tp A) ([.ref h0, .int 49] : List Value).toArray s 0 0 A) (F0 m 206 ls [.int (knS (bf tp) (bf (tp + 1)) (sf (tp + 1)))]) := by
              intro H locs hP hD hS
              refine lv_istore (lv' := [(8, .int (knS (bf tp) (bf (tp + 1)) (sf (tp + 1)))), (7, .int (thI (bf (tp + 1)))), (6, .int (thI (bf tp))), (4, .long (sf (tp + 1))), (2, .long (sf tp)), (0, .ref h0), (1, .int 49)]) hx hb dX1_two_206 hl (by decide) rfl (fun ls hl => ?_)
              refine lv_aload_n hx hb dX1_two_208 rfl (lv_at hl 5 rfl) ?_
              have mg_11 : ∀ (H : Heap) (locs : List Loc), va_P (dC, dI) vwCl [(h0, .inr (2, [.int sz1, k1, k2, k3, k4, k5, k6, k7, k8, k9, .ref hS1, .ref hB1, .int (nI tp)])), (hS1, .inl (cJ, N, .inr (.inl sf))), (hB1, .inl (cB, N, .inl bf))] H → va_D A [(h0, .inr (2, [.int sz1, k1, k2, k3, k4, k5, k6, k7, k8, k9, .ref hS1, .ref hB1, .int (nI tp)])), (hS1, .inl (cJ, N, .inr (.inl sf))), (hB1, .inl (cB, N, .inl bf))] → va_S A s.heap H locs → W p l e (headSpec (wsOf yX1_two cX1_two 10 none) ({ frames := 1, cells := 0, slots := 0, locals := 24 })).room s m ([.ref h0, .int 49] : List Value).toArray below meth c H locs 0 0 (MQ below (qc_t_two_percent dC dI cB cI cJ cZ h0 hS1 hB1 sz1 k1 k2 k3 k4 k5 k6 k7 k8 k9 N sf bf tp A) ([.ref h0, .int 49] : List Value).toArray s 0 0 A) (F0 m 225 ls [.long (kvI (knS (bf tp) (bf (tp + 1)) (sf (tp + 1))) (rmS (sf tp) (sf (tp + 1)))), .ref h0]) := by
                intro H locs hP hD hS
                have mg_12 : ∀ (H : Heap) (locs : List Loc), va_P (dC, dI) vwCl [(h0, .inr (2, [.int sz1, k1, k2, k3, k4, k5, k6, k7, k8, k9, .ref hS1, .ref hB1, .int (nI tp)])), (hS1, .inl (cJ, N, .inr (.inl sf))), (hB1, .inl (cB, N, .inl bf))] H → va_D A [(h0, .inr (2, [.int sz1, k1, k2, k3, k4, k5, k6, k7, k8, k9, .ref hS1, .ref hB1, .int (nI tp)])), (hS1, .inl (cJ, N, .inr (.inl sf))), (hB1, .inl (cB, N, .inl bf))] → va_S A s.heap H locs → W p l e (headSpec (wsOf yX1_two cX1_two 10 none) ({ frames := 1, cells := 0, slots := 0, locals := 24 })).room s m ([.ref h0, .int 49] : List Value).toArray below meth c H locs 0 0 (MQ below (qc_t_two_percent dC dI cB cI cJ cZ h0 hS1 hB1 sz1 k1 k2 k3 k4 k5 k6 k7 k8 k9 N sf bf tp A) ([.ref h0, .int 49] : List Value).toArray s 0 0 A) (F0 m 235 ls [.int (nbI (knS (bf tp) (bf (tp + 1)) (sf (tp + 1)))), .long (kvI (knS (bf tp) (bf (tp + 1)) (sf (tp + 1))) (rmS (sf tp) (sf (tp + 1)))), .ref h0]) := by
                  intro H locs hP hD hS
                  have hPc := hP.sub (ws' := [(h0, .inr (2, [.int sz1, k1, k2, k3, k4, k5, k6, k7, k8, k9, .ref hS1, .ref hB1, .int (nI tp)])), (hS1, .inl (cJ, N, .inr (.inl sf))), (hB1, .inl (cB, N, .inl bf))]) [0, 1, 2] rfl
                  have hDc := hD.sub (ws' := [(h0, .inr (2, [.int sz1, k1, k2, k3, k4, k5, k6, k7, k8, k9, .ref hS1, .ref hB1, .int (nI tp)])), (hS1, .inl (cJ, N, .inr (.inl sf))), (hB1, .inl (cB, N, .inl bf))]) [0, 1, 2] (by decide) rfl
                  have hKc := hK.sub (tys' := [(cB, .byte), (cI, .int), (cJ, .long), (cZ, .boolean)]) [0, 1, 2, 3] rfl
                  have hFc := va_free (wc := [(h0, .inr (2, [.int sz1, k1, k2, k3, k4, k5, k6, k7, k8, k9, .ref hS1, .ref hB1, .int (nI tp)])), (hS1, .inl (cJ, N, .inr (.inl sf))), (hB1, .inl (cB, N, .inl bf))]) hD hS hA [0, 1, 2] rfl
                  refine va_callv (va_runV (As := [.long (kvI (knS (bf tp) (bf (tp + 1)) (sf (tp + 1))) (rmS (sf tp) (sf (tp + 1)))), .int (nbI (knS (bf tp) (bf (tp + 1)) (sf (tp + 1))))]) (rest := []) ⟨hx, hb, hml, hown, hts⟩ (t_X1_push l dC dI H.size cB cI cJ cZ h0 hS1 hB1 sz1 k1 k2 k3 k4 k5 k6 k7 k8 k9 N sf bf tp (kvI (knS (bf tp) (bf (tp + 1)) (sf (tp + 1))) (rmS (sf tp) (sf (tp + 1)))) (nbI (knS (bf tp) (bf (tp + 1)) (sf (tp + 1)))) (by omega) (by omega)) (cwV 2 hts (gd_all (in_V kw_1415 kw_1417 kw_73 kw_189 kc_X1_push)) rfl rfl rfl (by decide +kernel) ⟨Nat.le_of_ble_eq_true rfl, Nat.le_of_ble_eq_true rfl⟩) ⟨fun a U g mk q => by obtain ⟨q0, q1, qP, qK, qD⟩ := q; exact ⟨q0, q1, qP, va_K.moved (u := U) (U := U.calling g mk a) (Vm.Alike.refl U.vm) qK, qD⟩, va_recv hKc hPc (ci := 2) (q0 := 0) rfl rfl, fun U hU hW => ⟨rfl, by rw [hU], by rw [hU]; exact hPc, va_K.moved hW.alike hKc, hDc.weaken (fun _ _ _ _ => trivial)⟩⟩ rfl rfl hl.1 rfl (lv_room (Nat.le_of_ble_eq_true rfl)) dX1_two_235 ⟨Nat.le_of_ble_eq_true rfl, Nat.le_of_ble_eq_true rfl⟩) hS (fun q _ h => hFc q h) hFc (fun u t_ H1 locs ht hvm hw hB hz1 hk1 hS => ?_)
                  obtain ⟨hP1, hK1, hD1⟩ := hB
                  rw [ht] at hP1
                  have hK1 := va_K.moved hvm.symm hK1
                  obtain ⟨hP, hD⟩ := va_join (wr := []) (w1 := [(h0, .inr (2, [.int sz1, k1, k2, k3, k4, k5, k6, k7, k8, k9, .ref hS1, .ref hB1, .int (nI (tp + 1))])), (hS1, .inl (cJ, N, .inr (.inl (vp_updL sf tp (pv (kvI (knS (bf tp) (bf (tp + 1)) (sf (tp + 1))) (rmS (sf tp) (sf (tp + 1)))) (nbI (knS (bf tp) (bf (tp + 1)) (sf (tp + 1))))))))), (hB1, .inl (cB, N, .inl (upd bf tp (pb (nbI (knS (bf tp) (bf (tp + 1)) (sf (tp + 1))))))))]) hP hD [0, 1, 2] [] rfl rfl (by decide) (by decide) hk1 hFc hP1 hD1
                  have hK := (hK.sub (tys' := []) [] rfl).app hK1
                  generalize H1 = H at hP hS ⊢
                  have hP : va_P (dC, dI) vwCl [(h0, .inr (2, [.int sz1, k1, k2, k3, k4, k5, k6, k7, k8, k9, .ref hS1, .ref hB1, .int (nI (tp + 1))])), (hS1, .inl (cJ, N, .inr (.inl (vp_updL sf tp (pv (kvI (knS (bf tp) (bf (tp + 1)) (sf (tp + 1))) (rmS (sf tp) (sf (tp + 1)))) (nbI (knS (bf tp) (bf (tp + 1)) (sf (tp + 1))))))))), (hB1, .inl (cB, N, .inl (upd bf tp (pb (nbI (knS (bf tp) (bf (tp + 1)) (sf (tp + 1))))))))] H := hP
                  have hD : va_D A [(h0, .inr (2, [.int sz1, k1, k2, k3, k4, k5, k6, k7, k8, k9, .ref hS1, .ref hB1, .int (nI (tp + 1))])), (hS1, .inl (cJ, N, .inr (.inl (vp_updL sf tp (pv (kvI (knS (bf tp) (bf (tp + 1)) (sf (tp + 1))) (rmS (sf tp) (sf (tp + 1)))) (nbI (knS (bf tp) (bf (tp + 1)) (sf (tp + 1))))))))), (hB1, .inl (cB, N, .inl (upd bf tp (pb (nbI (knS (bf tp) (bf (tp + 1)) (sf (tp + 1))))))))] := hD
                  have hK : va_K (dC, dI) vwCl [(cB, .byte), (cI, .int), (cJ, .long), (cZ, .boolean)] s := hK
                  have hP9 := hP.sub (ws' := [(h0, .inr (2, [.int sz1, k1, k2, k3, k4, k5, k6, k7, k8, k9, .ref hS1, .ref hB1, .int (nI (tp + 1))])), (hS1, .inl (cJ, N, .inr (.inl (vp_updL sf tp (pv (kvI (knS (bf tp) (bf (tp + 1)) (sf (tp + 1))) (rmS (sf tp) (sf (tp + 1)))) (nbI (knS (bf tp) (bf (tp + 1)) (sf (tp + 1))))))))), (hB1, .inl (cB, N, .inl (upd bf tp (pb (nbI (knS (bf tp) (bf (tp + 1)) (sf (tp + 1))))))))]) [0, 1, 2] rfl
                  have hD9 := hD.sub (ws' := [(h0, .inr (2, [.int sz1, k1, k2, k3, k4, k5, k6, k7, k8, k9, .ref hS1, .ref hB1, .int (nI (tp + 1))])), (hS1, .inl (cJ, N, .inr (.inl (vp_updL sf tp (pv (kvI (knS (bf tp) (bf (tp + 1)) (sf (tp + 1))) (rmS (sf tp) (sf (tp + 1)))) (nbI (knS (bf tp) (bf (tp + 1)) (sf (tp + 1))))))))), (hB1, .inl (cB, N, .inl (upd bf tp (pb (nbI (knS (bf tp) (bf (tp + 1)) (sf (tp + 1))))))))]) [0, 1, 2] (by decide) rfl
                  have hK9 := hK.sub (tys' := [(cB, .byte), (cI, .int), (cJ, .long), (cZ, .boolean)]) [0, 1, 2, 3] rfl
                  exact W.vret hx hb hr (fun t_ ht hW => ⟨⟨(), rfl, trivial, by rw [ht]; exact hP9, va_K.moved hW.alike hK9, hD9⟩, hS.F ht⟩) hS.2.2 dX1_two_238
                refine lv_iload hx hb dX1_two_225 (lv_at hl 0 rfl) ?_
                refine lv_if_eq (tgt := 234) hx hb dX1_two_227 (by decide) (fun c_14 => ?_) (fun c_14 => ?_)
                · skip
                  refine lv_iconst (v := 1) hx hb dX1_two_234 (by decide) ?_
                  exact W.eq (by unfold nbI; rw [if_pos c_14]) (mg_12 _ _ hP hD hS)
                · skip
                  refine lv_iconst (v := 0) hx hb dX1_two_230 (by decide) ?_
                  refine lv_goto (tgt := 235) hx hb dX1_two_231 (by decide) ?_
                  exact W.eq (by unfold nbI; rw [if_neg c_14]) (mg_12 _ _ hP hD hS)
              refine lv_iload hx hb dX1_two_209 (lv_at hl 0 rfl) ?_
              refine lv_if_eq (tgt := 224) hx hb dX1_two_211 (by decide) (fun c_15 => ?_) (fun c_15 => ?_)
              · skip
                refine lv_lconst (v := 0) hx hb dX1_two_224 (by decide) ?_
                exact W.eq (by unfold kvI; rw [if_pos c_15]) (mg_11 _ _ hP hD hS)
              · skip
                refine lv_iload_n hx hb dX1_two_214 rfl (lv_at hl 6 rfl) ?_
                refine lv_lload_n hx hb dX1_two_215 rfl (lv_at hl 4 rfl) ?_
                refine lv_lload hx hb dX1_two_216 (lv_at hl 3 rfl) ?_
                have hPc := hP.sub (ws' := []) [] rfl
                have hDc := hD.sub (ws' := []) [] (by decide) rfl
                have hKc := hK.sub (tys' := [(cB, .byte), (cI, .int), (cJ, .long), (cZ, .boolean)]) [0, 1, 2, 3] rfl
                have hFc := va_free (wc := []) hD hS hA [] rfl
                refine va_calll (va_runS (As := [.int 49, .long (sf tp), .long (sf (tp + 1))]) (rest := [.ref h0]) ⟨hx, hb, hml, hown, hts⟩ (t_reckon_percent l dC dI H.size cB cI cJ cZ (sf tp) (sf (tp + 1))) ⟨callB_of 3 hts (gd_all (in_I kc_X1_reckon)) rfl rfl rfl (hts _ (List.mem_cons_of_mem _ kw_189)) (hts _ (List.mem_cons_of_mem _ kw_1446)) (by decide +kernel) ⟨Nat.le_of_ble_eq_true rfl, Nat.le_of_ble_eq_true rfl⟩, hts _ (List.mem_cons_of_mem _ kw_1447)⟩ ⟨fun a U g mk q => by obtain ⟨q0, q1, qP, qK, qD⟩ := q; exact ⟨q0, q1, qP, va_K.moved (u := U) (U := U.calling g mk a) (Vm.Alike.refl U.vm) qK, qD⟩, fun U hU hW => ⟨rfl, by rw [hU], by rw [hU]; exact hPc, va_K.moved hW.alike hKc, hDc.weaken (fun _ _ _ _ => trivial)⟩⟩ rfl rfl hl.1 rfl (lv_room (Nat.le_of_ble_eq_true rfl)) dX1_two_218 ⟨Nat.le_of_ble_eq_true rfl, Nat.le_of_ble_eq_true rfl⟩) hS (fun q _ h => hFc q h) hFc (fun r_16 u t_ H1 locs ht hvm hw hB hz1 hk1 hS => ?_)
                obtain ⟨hP1, hK1, hD1⟩ := hB
                rw [ht] at hP1
                have hK1 := va_K.moved hvm.symm hK1
                obtain ⟨hP, hD⟩ := va_join (wr := [(h0, .inr (2, [.int sz1, k1, k2, k3, k4, k5, k6, k7, k8, k9, .ref hS1, .ref hB1, .int (nI tp)])), (hS1, .inl (cJ, N, .inr (.inl sf))), (hB1, .inl (cB, N, .inl bf))]) (w1 := []) hP hD [] [0, 1, 2] rfl rfl (by decide) (by decide) hk1 hFc hP1 hD1
                have hK := (hK.sub (tys' := []) [] rfl).app hK1
                generalize H1 = H at hP hS ⊢
                have hP : va_P (dC, dI) vwCl [(h0, .inr (2, [.int sz1, k1, k2, k3, k4, k5, k6, k7, k8, k9, .ref hS1, .ref hB1, .int (nI tp)])), (hS1, .inl (cJ, N, .inr (.inl sf))), (hB1, .inl (cB, N, .inl bf))] H := hP
                have hD : va_D A [(h0, .inr (2, [.int sz1, k1, k2, k3, k4, k5, k6, k7, k8, k9, .ref hS1, .ref hB1, .int (nI tp)])), (hS1, .inl (cJ, N, .inr (.inl sf))), (hB1, .inl (cB, N, .inl bf))] := hD
                have hK : va_K (dC, dI) vwCl [(cB, .byte), (cI, .int), (cJ, .long), (cZ, .boolean)] s := hK
                have er_16 : r_16 = rmS (sf tp) (sf (tp + 1)) := hw
                rw [er_16]
                refine lv_goto (tgt := 225) hx hb dX1_two_221 (by decide) ?_
                exact W.eq (by unfold kvI; rw [if_neg c_15]) (mg_11 _ _ hP hD hS)
            refine lv_iload hx hb dX1_two_182 (lv_at hl 1 rfl) ?_
            refine lv_if_eq (tgt := 205) hx hb dX1_two_184 (by decide) (fun c_17 => ?_) (fun c_17 => ?_)
            · skip
              refine lv_iconst (v := 0) hx hb dX1_two_205 (by decide) ?_
              exact W.eq (by unfold knS; rw [if_pos c_17]) (mg_10 _ _ hP hD hS)
            · skip
              refine lv_iload hx hb dX1_two_187 (lv_at hl 0 rfl) ?_
              refine lv_if_eq (tgt := 205) hx hb dX1_two_189 (by decide) (fun c_18 => ?_) (fun c_18 => ?_)
              · skip
                refine lv_iconst (v := 0) hx hb dX1_two_205 (by decide) ?_
                exact W.eq (by unfold knS; rw [if_neg c_17, if_pos c_18]) (mg_10 _ _ hP hD hS)
              · skip
                refine lv_iload_n hx hb dX1_two_192 rfl (lv_at hl 5 rfl) ?_
                refine lv_lload hx hb dX1_two_193 (lv_at hl 2 rfl) ?_
                have hPc := hP.sub (ws' := []) [] rfl
                have hDc := hD.sub (ws' := []) [] (by decide) rfl
                have hKc := hK.sub (tys' := [(cB, .byte), (cI, .int), (cJ, .long), (cZ, .boolean)]) [0, 1, 2, 3] rfl
                have hFc := va_free (wc := []) hD hS hA [] rfl
                refine va_calli (va_runS (As := [.int 49, .long (sf (tp + 1))]) (rest := []) ⟨hx, hb, hml, hown, hts⟩ (t_hasResult_percent l dC dI H.size cB cI cJ cZ (sf (tp + 1))) ⟨callB_of 2 hts (gd_all (in_I kc_X1_hasResult)) rfl rfl rfl (hts _ (List.mem_cons_of_mem _ kw_189)) (hts _ (List.mem_cons_of_mem _ kw_1443)) (by decide +kernel) ⟨Nat.le_of_ble_eq_true rfl, Nat.le_of_ble_eq_true rfl⟩, hts _ (List.mem_cons_of_mem _ kw_1444)⟩ ⟨fun a U g mk q => by obtain ⟨q0, q1, qP, qK, qD⟩ := q; exact ⟨q0, q1, qP, va_K.moved (u := U) (U := U.calling g mk a) (Vm.Alike.refl U.vm) qK, qD⟩, fun U hU hW => ⟨rfl, by rw [hU], by rw [hU]; exact hPc, va_K.moved hW.alike hKc, hDc.weaken (fun _ _ _ _ => trivial)⟩⟩ rfl rfl hl.1 rfl (lv_room (Nat.le_of_ble_eq_true rfl)) dX1_two_195 ⟨Nat.le_of_ble_eq_true rfl, Nat.le_of_ble_eq_true rfl⟩) hS (fun q _ h => hFc q h) hFc (fun r_19 u t_ H1 locs ht hvm hw hB hz1 hk1 hS => ?_)
                obtain ⟨hP1, hK1, hD1⟩ := hB
                rw [ht] at hP1
                have hK1 := va_K.moved hvm.symm hK1
                obtain ⟨hP, hD⟩ := va_join (wr := [(h0, .inr (2, [.int sz1, k1, k2, k3, k4, k5, k6, k7, k8, k9, .ref hS1, .ref hB1, .int (nI tp)])), (hS1, .inl (cJ, N, .inr (.inl sf))), (hB1, .inl (cB, N, .inl bf))]) (w1 := []) hP hD [] [0, 1, 2] rfl rfl (by decide) (by decide) hk1 hFc hP1 hD1
                have hK := (hK.sub (tys' := []) [] rfl).app hK1
                generalize H1 = H at hP hS ⊢
                have hP : va_P (dC, dI) vwCl [(h0, .inr (2, [.int sz1, k1, k2, k3, k4, k5, k6, k7, k8, k9, .ref hS1, .ref hB1, .int (nI tp)])), (hS1, .inl (cJ, N, .inr (.inl sf))), (hB1, .inl (cB, N, .inl bf))] H := hP
                have hD : va_D A [(h0, .inr (2, [.int sz1, k1, k2, k3, k4, k5, k6, k7, k8, k9, .ref hS1, .ref hB1, .int (nI tp)])), (hS1, .inl (cJ, N, .inr (.inl sf))), (hB1, .inl (cB, N, .inl bf))] := hD
                have hK : va_K (dC, dI) vwCl [(cB, .byte), (cI, .int), (cJ, .long), (cZ, .boolean)] s := hK
                have er_19 : r_19 = hrS (sf (tp + 1)) := hw
                rw [er_19]
                refine lv_if_eq (tgt := 205) hx hb dX1_two_198 (by decide) (fun c_20 => ?_) (fun c_20 => ?_)
                · skip
                  refine lv_iconst (v := 0) hx hb dX1_two_205 (by decide) ?_
                  exact W.eq (by unfold knS; rw [if_neg c_17, if_neg c_18, if_pos c_20]) (mg_10 _ _ hP hD hS)
                · skip
                  refine lv_iconst (v := 1) hx hb dX1_two_201 (by decide) ?_
                  refine lv_goto (tgt := 206) hx hb dX1_two_202 (by decide) ?_
                  exact W.eq (by unfold knS; rw [if_neg c_17, if_neg c_18, if_neg c_20]) (mg_10 _ _ hP hD hS)
          · skip
            exact absurd c_9 (by decide)
      refine lv_aload_n hx hb dX1_two_61 rfl (lv_at hl 3 rfl) ?_
      refine va_get (D := (dC, dI)) (ci := 2) (v := .ref hB1) (C := RX1) (T := TX1) (N := 13) hx hb hts (fun w h => List.mem_cons_of_mem _ (uG_X1 w h)) hown hK hP 0 rfl rfl 11 (by decide) (hts _ (List.mem_cons_of_mem _ kw_399)) (fun _ h9 => h9) rfl dX1_two_62 ?_
      refine lv_aload_n hx hb dX1_two_65 rfl (lv_at hl 3 rfl) ?_
      refine va_get (D := (dC, dI)) (ci := 2) (v := .int (nI tp)) (C := RX1) (T := TX1) (N := 13) hx hb hts (fun w h => List.mem_cons_of_mem _ (uG_X1 w h)) hown hK hP 0 rfl rfl 12 (by decide) (hts _ (List.mem_cons_of_mem _ kw_400)) (fun _ h9 => h9) rfl dX1_two_66 ?_
      refine lv_iconst (v := 1) hx hb dX1_two_69 (by decide) ?_
      refine lv_iadd hx hb dX1_two_70 ?_
      refine lv_topi (fun x_21 ex_21 => ?_)
      have ex_21 : x_21 = nI (tp + 1) := ex_21.trans (nI_add tp 1)
      subst ex_21
      refine va_bald hx hb hK hP 2 0 rfl rfl (i := (nI (tp + 1))) (vp_in_nI (n := tp + 1) (N := N) (by omega) (by omega)) dX1_two_71 ?_
      refine lv_topi (fun x_22 ex_22 => ?_)
      have ex_22 : x_22 = bf (tp + 1) := ex_22.trans (congrArg bf (nI_clamp (n := tp + 1) (by omega)))
      subst ex_22
      refine lv_if_ne (tgt := 79) hx hb dX1_two_72 (by decide) (fun c_23 => ?_) (fun c_23 => ?_)
      · skip
        refine lv_iconst (v := 0) hx hb dX1_two_79 (by decide) ?_
        exact W.eq (by unfold thI; rw [if_neg c_23]) (mg_7 _ _ hP hD hS)
      · skip
        refine lv_iconst (v := 1) hx hb dX1_two_75 (by decide) ?_
        refine lv_goto (tgt := 80) hx hb dX1_two_76 (by decide) ?_
        exact W.eq (by unfold thI; rw [if_pos c_23]) (mg_7 _ _ hP hD hS)
    refine lv_aload_n hx hb dX1_two_42 rfl (lv_at hl 2 rfl) ?_
    refine va_get (D := (dC, dI)) (ci := 2) (v := .ref hB1) (C := RX1) (T := TX1) (N := 13) hx hb hts (fun w h => List.mem_cons_of_mem _ (uG_X1 w h)) hown hK hP 0 rfl rfl 11 (by decide) (hts _ (List.mem_cons_of_mem _ kw_399)) (fun _ h9 => h9) rfl dX1_two_43 ?_
    refine lv_aload_n hx hb dX1_two_46 rfl (lv_at hl 2 rfl) ?_
    refine va_get (D := (dC, dI)) (ci := 2) (v := .int (nI tp)) (C := RX1) (T := TX1) (N := 13) hx hb hts (fun w h => List.mem_cons_of_mem _ (uG_X1 w h)) hown hK hP 0 rfl rfl 12 (by decide) (hts _ (List.mem_cons_of_mem _ kw_400)) (fun _ h9 => h9) rfl dX1_two_47 ?_
    refine va_bald hx hb hK hP 2 0 rfl rfl (i := (nI tp)) (vp_in_nI (n := tp) (N := N) (by omega) (by omega)) dX1_two_50 ?_
    refine lv_topi (fun x_24 ex_24 => ?_)
    have ex_24 : x_24 = bf tp := ex_24.trans (congrArg bf (nI_clamp (n := tp) (by omega)))
    subst ex_24
    refine lv_if_ne (tgt := 58) hx hb dX1_two_51 (by decide) (fun c_25 => ?_) (fun c_25 => ?_)
    · skip
      refine lv_iconst (v := 0) hx hb dX1_two_58 (by decide) ?_
      exact W.eq (by unfold thI; rw [if_neg c_25]) (mg_6 _ _ hP hD hS)
    · skip
      refine lv_iconst (v := 1) hx hb dX1_two_54 (by decide) ?_
      refine lv_goto (tgt := 59) hx hb dX1_two_55 (by decide) ?_
      exact W.eq (by unfold thI; rw [if_pos c_25]) (mg_6 _ _ hP hD hS)
  · skip
    have c_1 : ¬ (2 ≤ tp + 2) := fun h => c_1 ((nI_leI (a := 2) (b := tp + 2) (by omega) (by omega)).mpr h)
    exact absurd (show 2 ≤ tp + 2 by omega) c_1
theorem dX1_search_0 : decode cX1_search 0 = .ok (.iload_n 1, 1) := by decide +kernel
theorem dX1_search_1 : decode cX1_search 1 = .ok (.ifCond .lt 13, 3) := by decide +kernel
theorem dX1_search_4 : decode cX1_search 4 = .ok (.aload_n 0, 1) := by decide +kernel
theorem dX1_search_5 : decode cX1_search 5 = .ok (.getfield 62, 3) := by decide +kernel
theorem dX1_search_8 : decode cX1_search 8 = .ok (.iload_n 1, 1) := by decide +kernel
theorem dX1_search_9 : decode cX1_search 9 = .ok (.iconst 1, 1) := by decide +kernel
theorem dX1_search_10 : decode cX1_search 10 = .ok (.iadd, 1) := by decide +kernel
theorem dX1_search_11 : decode cX1_search 11 = .ok (.if_icmp .ge 4, 3) := by decide +kernel
theorem dX1_search_14 : decode cX1_search 14 = .ok (.return_, 1) := by decide +kernel
theorem dX1_search_15 : decode cX1_search 15 = .ok (.aload_n 0, 1) := by decide +kernel
theorem dX1_search_16 : decode cX1_search 16 = .ok (.dup, 1) := by decide +kernel
theorem dX1_search_17 : decode cX1_search 17 = .ok (.getfield 62, 3) := by decide +kernel
theorem dX1_search_20 : decode cX1_search 20 = .ok (.iload_n 1, 1) := by decide +kernel
theorem dX1_search_21 : decode cX1_search 21 = .ok (.iconst 1, 1) := by decide +kernel
theorem dX1_search_22 : decode cX1_search 22 = .ok (.iadd, 1) := by decide +kernel
theorem dX1_search_23 : decode cX1_search 23 = .ok (.isub, 1) := by decide +kernel
theorem dX1_search_24 : decode cX1_search 24 = .ok (.putfield 62, 3) := by decide +kernel
theorem dX1_search_27 : decode cX1_search 27 = .ok (.aload_n 0, 1) := by decide +kernel
theorem dX1_search_28 : decode cX1_search 28 = .ok (.getfield 49, 3) := by decide +kernel
theorem dX1_search_31 : decode cX1_search 31 = .ok (.aload_n 0, 1) := by decide +kernel
theorem dX1_search_32 : decode cX1_search 32 = .ok (.getfield 62, 3) := by decide +kernel
theorem dX1_search_35 : decode cX1_search 35 = .ok (.baload, 1) := by decide +kernel
theorem dX1_search_36 : decode cX1_search 36 = .ok (.ifCond .eq 7, 3) := by decide +kernel
theorem dX1_search_39 : decode cX1_search 39 = .ok (.iconst 1, 1) := by decide +kernel
theorem dX1_search_40 : decode cX1_search 40 = .ok (.goto 4, 3) := by decide +kernel
theorem dX1_search_43 : decode cX1_search 43 = .ok (.iconst 0, 1) := by decide +kernel
theorem dX1_search_44 : decode cX1_search 44 = .ok (.istore_n 3, 1) := by decide +kernel
theorem dX1_search_45 : decode cX1_search 45 = .ok (.iconst 0, 1) := by decide +kernel
theorem dX1_search_46 : decode cX1_search 46 = .ok (.istore 4, 2) := by decide +kernel
theorem dX1_search_48 : decode cX1_search 48 = .ok (.aload_n 0, 1) := by decide +kernel
theorem dX1_search_49 : decode cX1_search 49 = .ok (.getfield 62, 3) := by decide +kernel
theorem dX1_search_52 : decode cX1_search 52 = .ok (.iconst 1, 1) := by decide +kernel
theorem dX1_search_53 : decode cX1_search 53 = .ok (.iadd, 1) := by decide +kernel
theorem dX1_search_54 : decode cX1_search 54 = .ok (.istore 5, 2) := by decide +kernel
theorem dX1_search_56 : decode cX1_search 56 = .ok (.iload 5, 2) := by decide +kernel
theorem dX1_search_58 : decode cX1_search 58 = .ok (.aload_n 0, 1) := by decide +kernel
theorem dX1_search_59 : decode cX1_search 59 = .ok (.getfield 62, 3) := by decide +kernel
theorem dX1_search_62 : decode cX1_search 62 = .ok (.iload_n 1, 1) := by decide +kernel
theorem dX1_search_63 : decode cX1_search 63 = .ok (.iadd, 1) := by decide +kernel
theorem dX1_search_64 : decode cX1_search 64 = .ok (.if_icmp .gt 83, 3) := by decide +kernel
theorem dX1_search_67 : decode cX1_search 67 = .ok (.iload_n 3, 1) := by decide +kernel
theorem dX1_search_68 : decode cX1_search 68 = .ok (.ifCond .ne 13, 3) := by decide +kernel
theorem dX1_search_71 : decode cX1_search 71 = .ok (.aload_n 0, 1) := by decide +kernel
theorem dX1_search_72 : decode cX1_search 72 = .ok (.getfield 49, 3) := by decide +kernel
theorem dX1_search_75 : decode cX1_search 75 = .ok (.iload 5, 2) := by decide +kernel
theorem dX1_search_77 : decode cX1_search 77 = .ok (.baload, 1) := by decide +kernel
theorem dX1_search_78 : decode cX1_search 78 = .ok (.ifCond .eq 7, 3) := by decide +kernel
theorem dX1_search_81 : decode cX1_search 81 = .ok (.iconst 1, 1) := by decide +kernel
theorem dX1_search_82 : decode cX1_search 82 = .ok (.goto 4, 3) := by decide +kernel
theorem dX1_search_85 : decode cX1_search 85 = .ok (.iconst 0, 1) := by decide +kernel
theorem dX1_search_86 : decode cX1_search 86 = .ok (.istore_n 3, 1) := by decide +kernel
theorem dX1_search_87 : decode cX1_search 87 = .ok (.iload 4, 2) := by decide +kernel
theorem dX1_search_89 : decode cX1_search 89 = .ok (.ifCond .ne 45, 3) := by decide +kernel
theorem dX1_search_92 : decode cX1_search 92 = .ok (.aload_n 0, 1) := by decide +kernel
theorem dX1_search_93 : decode cX1_search 93 = .ok (.getfield 49, 3) := by decide +kernel
theorem dX1_search_96 : decode cX1_search 96 = .ok (.aload_n 0, 1) := by decide +kernel
theorem dX1_search_97 : decode cX1_search 97 = .ok (.getfield 62, 3) := by decide +kernel
theorem dX1_search_100 : decode cX1_search 100 = .ok (.baload, 1) := by decide +kernel
theorem dX1_search_101 : decode cX1_search 101 = .ok (.ifCond .ne 37, 3) := by decide +kernel
theorem dX1_search_104 : decode cX1_search 104 = .ok (.aload_n 0, 1) := by decide +kernel
theorem dX1_search_105 : decode cX1_search 105 = .ok (.getfield 49, 3) := by decide +kernel
theorem dX1_search_108 : decode cX1_search 108 = .ok (.iload 5, 2) := by decide +kernel
theorem dX1_search_110 : decode cX1_search 110 = .ok (.baload, 1) := by decide +kernel
theorem dX1_search_111 : decode cX1_search 111 = .ok (.ifCond .ne 27, 3) := by decide +kernel
theorem dX1_search_114 : decode cX1_search 114 = .ok (.aload_n 0, 1) := by decide +kernel
theorem dX1_search_115 : decode cX1_search 115 = .ok (.getfield 46, 3) := by decide +kernel
theorem dX1_search_118 : decode cX1_search 118 = .ok (.iload 5, 2) := by decide +kernel
theorem dX1_search_120 : decode cX1_search 120 = .ok (.laload, 1) := by decide +kernel
theorem dX1_search_121 : decode cX1_search 121 = .ok (.aload_n 0, 1) := by decide +kernel
theorem dX1_search_122 : decode cX1_search 122 = .ok (.getfield 46, 3) := by decide +kernel
theorem dX1_search_125 : decode cX1_search 125 = .ok (.aload_n 0, 1) := by decide +kernel
theorem dX1_search_126 : decode cX1_search 126 = .ok (.getfield 62, 3) := by decide +kernel
theorem dX1_search_129 : decode cX1_search 129 = .ok (.laload, 1) := by decide +kernel
theorem dX1_search_130 : decode cX1_search 130 = .ok (.lcmp, 1) := by decide +kernel
theorem dX1_search_131 : decode cX1_search 131 = .ok (.ifCond .ne 7, 3) := by decide +kernel
theorem dX1_search_134 : decode cX1_search 134 = .ok (.iconst 1, 1) := by decide +kernel
theorem dX1_search_135 : decode cX1_search 135 = .ok (.goto 4, 3) := by decide +kernel
theorem dX1_search_138 : decode cX1_search 138 = .ok (.iconst 0, 1) := by decide +kernel
theorem dX1_search_139 : decode cX1_search 139 = .ok (.istore 4, 2) := by decide +kernel
theorem dX1_search_141 : decode cX1_search 141 = .ok (.iinc 5 1, 3) := by decide +kernel
theorem dX1_search_144 : decode cX1_search 144 = .ok (.goto (-88), 3) := by decide +kernel
theorem dX1_search_147 : decode cX1_search 147 = .ok (.aload_n 0, 1) := by decide +kernel
theorem dX1_search_148 : decode cX1_search 148 = .ok (.iload 4, 2) := by decide +kernel
theorem dX1_search_150 : decode cX1_search 150 = .ok (.ifCond .eq 8, 3) := by decide +kernel
theorem dX1_search_153 : decode cX1_search 153 = .ok (.iload_n 2, 1) := by decide +kernel
theorem dX1_search_154 : decode cX1_search 154 = .ok (.i2l, 1) := by decide +kernel
theorem dX1_search_155 : decode cX1_search 155 = .ok (.goto 7, 3) := by decide +kernel
theorem dX1_search_158 : decode cX1_search 158 = .ok (.iconst 1, 1) := by decide +kernel
theorem dX1_search_159 : decode cX1_search 159 = .ok (.iload_n 2, 1) := by decide +kernel
theorem dX1_search_160 : decode cX1_search 160 = .ok (.isub, 1) := by decide +kernel
theorem dX1_search_161 : decode cX1_search 161 = .ok (.i2l, 1) := by decide +kernel
theorem dX1_search_162 : decode cX1_search 162 = .ok (.iload 4, 2) := by decide +kernel
theorem dX1_search_164 : decode cX1_search 164 = .ok (.ifCond .ne 11, 3) := by decide +kernel
theorem dX1_search_167 : decode cX1_search 167 = .ok (.iload_n 3, 1) := by decide +kernel
theorem dX1_search_168 : decode cX1_search 168 = .ok (.ifCond .eq 7, 3) := by decide +kernel
theorem dX1_search_171 : decode cX1_search 171 = .ok (.iconst 1, 1) := by decide +kernel
theorem dX1_search_172 : decode cX1_search 172 = .ok (.goto 4, 3) := by decide +kernel
theorem dX1_search_175 : decode cX1_search 175 = .ok (.iconst 0, 1) := by decide +kernel
theorem dX1_search_176 : decode cX1_search 176 = .ok (.invokevirtual 69, 3) := by decide +kernel
theorem dX1_search_179 : decode cX1_search 179 = .ok (.return_, 1) := by decide +kernel
abbrev cs_t_search_in (cB cI cJ cZ : ClassId) (h0 hS1 hB1 : Nat) (sz1 : Int32) (k1 k2 k3 k4 k5 k6 k7 k8 k9 : Value) (N : Nat) (sf : Nat → Int64) (bf : Nat → Int32) (tp : Nat) (c1 : Nat) : va_W := [(h0, .inr (2, [.int sz1, k1, k2, k3, k4, k5, k6, k7, k8, k9, .ref hS1, .ref hB1, .int (nI (tp + (c1 + 1)))])), (hS1, .inl (cJ, N, .inr (.inl sf))), (hB1, .inl (cB, N, .inl bf))]
abbrev pc_t_search_in (dC : Nat → ClassId) (dI : Nat → Nat → Nat) (sz : Nat) (cB cI cJ cZ : ClassId) (h0 hS1 hB1 : Nat) (sz1 : Int32) (k1 k2 k3 k4 k5 k6 k7 k8 k9 : Value) (N : Nat) (sf : Nat → Int64) (bf : Nat → Int32) (tp : Nat) (c1 : Nat) : Array Value → State → Prop := va_Pc [.ref h0, .int (nI c1), .int 1] (fun U => U.heap.size = sz ∧ va_P (dC, dI) vwCl [(h0, .inr (2, [.int sz1, k1, k2, k3, k4, k5, k6, k7, k8, k9, .ref hS1, .ref hB1, .int (nI (tp + (c1 + 1)))])), (hS1, .inl (cJ, N, .inr (.inl sf))), (hB1, .inl (cB, N, .inl bf))] U.heap ∧ va_K (dC, dI) vwCl [(cB, .byte), (cI, .int), (cJ, .long), (cZ, .boolean)] U ∧ va_D (fun _ => True) [(h0, .inr (2, [.int sz1, k1, k2, k3, k4, k5, k6, k7, k8, k9, .ref hS1, .ref hB1, .int (nI (tp + (c1 + 1)))])), (hS1, .inl (cJ, N, .inr (.inl sf))), (hB1, .inl (cB, N, .inl bf))])
abbrev qc_t_search_in (dC : Nat → ClassId) (dI : Nat → Nat → Nat) (cB cI cJ cZ : ClassId) (h0 hS1 hB1 : Nat) (sz1 : Int32) (k1 k2 k3 k4 k5 k6 k7 k8 k9 : Value) (N : Nat) (sf : Nat → Int64) (bf : Nat → Int32) (tp : Nat) (c1 : Nat) (A : Nat → Prop) : Array Value → State → Outcome → State → Prop := va_Qv (fun (u : Nat) => match u with | j2 => j2 = c1) (fun (u : Nat) t_ => match u with | j2 => va_P (dC, dI) vwCl [(h0, .inr (2, [.int sz1, k1, k2, k3, k4, k5, k6, k7, k8, k9, .ref hS1, .ref hB1, .int (nI (tp + 1))])), (hS1, .inl (cJ, N, .inr (.inl (vp_updL sf tp (pv (avI 1 0 (srF sf bf tp j2)) (seB (srF sf bf tp j2) (srU bf tp j2))))))), (hB1, .inl (cB, N, .inl (upd bf tp (pb (seB (srF sf bf tp j2) (srU bf tp j2))))))] t_.heap ∧ va_K (dC, dI) vwCl [(cB, .byte), (cI, .int), (cJ, .long), (cZ, .boolean)] t_ ∧ va_D A [(h0, .inr (2, [.int sz1, k1, k2, k3, k4, k5, k6, k7, k8, k9, .ref hS1, .ref hB1, .int (nI (tp + 1))])), (hS1, .inl (cJ, N, .inr (.inl (vp_updL sf tp (pv (avI 1 0 (srF sf bf tp j2)) (seB (srF sf bf tp j2) (srU bf tp j2))))))), (hB1, .inl (cB, N, .inl (upd bf tp (pb (seB (srF sf bf tp j2) (srU bf tp j2))))))]) A
set_option maxHeartbeats 4000000 in
set_option maxRecDepth 100000 in
theorem t_search_in (l : Launch) (dC : Nat → ClassId) (dI : Nat → Nat → Nat) (sz : Nat) (cB cI cJ cZ : ClassId) (h0 hS1 hB1 : Nat) (sz1 : Int32) (k1 k2 k3 k4 k5 k6 k7 k8 k9 : Value) (N : Nat) (sf : Nat → Int64) (bf : Nat → Int32) (tp : Nat) (c1 : Nat) (hN : N < 1000000) (htp : tp + (c1 + 1) ≤ N) : Met l yX1_search (wsOf yX1_search cX1_search 6 none) ({ frames := 1, cells := 0, slots := 0, locals := 60 }) (pc_t_search_in dC dI sz cB cI cJ cZ h0 hS1 hB1 sz1 k1 k2 k3 k4 k5 k6 k7 k8 k9 N sf bf tp c1) (qc_t_search_in dC dI cB cI cJ cZ h0 hS1 hB1 sz1 k1 k2 k3 k4 k5 k6 k7 k8 k9 N sf bf tp c1 (va_A (cs_t_search_in cB cI cJ cZ h0 hS1 hB1 sz1 k1 k2 k3 k4 k5 k6 k7 k8 k9 N sf bf tp c1) sz)) 0 0 (va_A (cs_t_search_in cB cI cJ cZ h0 hS1 hB1 sz1 k1 k2 k3 k4 k5 k6 k7 k8 k9 N sf bf tp c1) sz) := by
  refine Met.ofW (cc := cX1_search) (maxL := 6) (ret := none) (by decide) rfl ?_
  intro p e s m args below meth c s₁ B hml hv
  obtain ⟨rfl, hsz, hP, hK, hD0⟩ := hv
  have hx := B.exec
  have hb := B.bytes
  have hr := B.returns
  have hts := atoms_spec (ws := (wsOf yX1_search cX1_search 6 none)) B.pre
  have hown : s.vm.findClass RX1 = some m.cls := findClass_of_methodNamed B.named
  have hlocks := B.notSynchronized
  subst hsz
  have hD := hD0.self (sz := s.heap.size)
  generalize hAe : va_A (cs_t_search_in cB cI cJ cZ h0 hS1 hB1 sz1 k1 k2 k3 k4 k5 k6 k7 k8 k9 N sf bf tp c1) s.heap.size = A at hD ⊢
  have hA : ∀ q : Nat, s.heap.size ≤ q → A q := fun q h => by rw [← hAe]; exact Or.inr h
  have hS : va_S A s.heap s.heap [] := va_S.rf
  have hP : va_P (dC, dI) vwCl [(h0, .inr (2, [.int sz1, k1, k2, k3, k4, k5, k6, k7, k8, k9, .ref hS1, .ref hB1, .int (nI (tp + (c1 + 1)))])), (hS1, .inl (cJ, N, .inr (.inl sf))), (hB1, .inl (cB, N, .inl bf))] s.heap := hP
  have hl := lv_entry ([.ref h0, .int (nI c1), .int 1]) (n := 6) (Nat.le_of_ble_eq_true rfl)
  rw [lg_entry_eq]
  generalize (lg_sl ([.ref h0, .int (nI c1), .int 1]) ++ List.replicate (6 - (lg_sl ([.ref h0, .int (nI c1), .int 1])).length) Slot.unset).toArray = ls at hl ⊢
  have hl : lv_has ls 6 [(0, .ref h0), (1, .int (nI c1)), (2, .int 1)] := hl
  refine lv_iload_n hx hb dX1_search_0 rfl (lv_at hl 1 rfl) ?_
  refine lv_if_lt (tgt := 14) hx hb dX1_search_1 (by decide) (fun c_1 => ?_) (fun c_1 => ?_)
  · skip
    have c_1 : c1 < 0 := (nI_ltI (a := c1) (b := 0) (by omega) (by omega)).mp c_1
    exact absurd c_1 (by omega)
  · skip
    have c_1 : ¬ (c1 < 0) := fun h => c_1 ((nI_ltI (a := c1) (b := 0) (by omega) (by omega)).mpr h)
    refine lv_aload_n hx hb dX1_search_4 rfl (lv_at hl 0 rfl) ?_
    refine va_get (D := (dC, dI)) (ci := 2) (v := .int (nI (tp + (c1 + 1)))) (C := RX1) (T := TX1) (N := 13) hx hb hts (fun w h => List.mem_cons_of_mem _ (uG_X1 w h)) hown hK hP 0 rfl rfl 12 (by decide) (hts _ (List.mem_cons_of_mem _ kw_400)) (fun _ h9 => h9) rfl dX1_search_5 ?_
    refine lv_iload_n hx hb dX1_search_8 rfl (lv_at hl 1 rfl) ?_
    refine lv_iconst (v := 1) hx hb dX1_search_9 (by decide) ?_
    refine lv_iadd hx hb dX1_search_10 ?_
    refine lv_topi (fun x_2 ex_2 => ?_)
    have ex_2 : x_2 = nI (c1 + 1) := ex_2.trans (nI_add c1 1)
    subst ex_2
    refine lv_icmp_ge (tgt := 15) hx hb dX1_search_11 (by decide) (fun c_3 => ?_) (fun c_3 => ?_)
    · skip
      have c_3 : c1 + 1 ≤ tp + (c1 + 1) := (nI_leI (a := c1 + 1) (b := tp + (c1 + 1)) (by omega) (by omega)).mp c_3
      refine lv_aload_n hx hb dX1_search_15 rfl (lv_at hl 0 rfl) ?_
      refine lv_dup hx hb dX1_search_16 rfl ?_
      refine va_get (D := (dC, dI)) (ci := 2) (v := .int (nI (tp + (c1 + 1)))) (C := RX1) (T := TX1) (N := 13) hx hb hts (fun w h => List.mem_cons_of_mem _ (uG_X1 w h)) hown hK hP 0 rfl rfl 12 (by decide) (hts _ (List.mem_cons_of_mem _ kw_400)) (fun _ h9 => h9) rfl dX1_search_17 ?_
      refine lv_iload_n hx hb dX1_search_20 rfl (lv_at hl 1 rfl) ?_
      refine lv_iconst (v := 1) hx hb dX1_search_21 (by decide) ?_
      refine lv_iadd hx hb dX1_search_22 ?_
      refine lv_topi (fun x_4 ex_4 => ?_)
      have ex_4 : x_4 = nI (c1 + 1) := ex_4.trans (nI_add c1 1)
      subst ex_4
      refine lv_isub hx hb dX1_search_23 ?_
      refine lv_topi (fun x_5 ex_5 => ?_)
      have ex_5 : x_5 = nI tp := by exact ex_5.trans (pk_sub (a := tp + (c1 + 1)) (b := c1 + 1) (by omega) |>.trans (by rw [Nat.add_sub_cancel]))
      subst ex_5
      refine va_put (D := (dC, dI)) (ci := 2) (v := .int (nI tp)) (ty := .int) (C := RX1) (T := TX1) (N := 13) hx hb hts (fun w h => List.mem_cons_of_mem _ (uG_X1 w h)) tyX1 tyX1_ok nmX1 hown hK hP hD hS 0 rfl rfl 12 (by decide) (hts _ (List.mem_cons_of_mem _ kw_400)) (fun _ h9 => h9) rfl (by decide +kernel) rfl rfl (Nat.le_of_ble_eq_true rfl) dX1_search_24 (fun H locs hP hD hS => ?_)
      have hP : va_P (dC, dI) vwCl [(h0, .inr (2, [.int sz1, k1, k2, k3, k4, k5, k6, k7, k8, k9, .ref hS1, .ref hB1, .int (nI tp)])), (hS1, .inl (cJ, N, .inr (.inl sf))), (hB1, .inl (cB, N, .inl bf))] H := hP
      have hD : va_D A [(h0, .inr (2, [.int sz1, k1, k2, k3, k4, k5, k6, k7, k8, k9, .ref hS1, .ref hB1, .int (nI tp)])), (hS1, .inl (cJ, N, .inr (.inl sf))), (hB1, .inl (cB, N, .inl bf))] := hD
      have mg_6 : ∀ (H : Heap) (locs : List Loc), va_P (dC, dI) vwCl [(h0, .inr (2, [.int sz1, k1, k2, k3, k4, k5, k6, k7, k8, k9, .ref hS1, .ref hB1, .int (nI tp)])), (hS1, .inl (cJ, N, .inr (.inl sf))), (hB1, .inl (cB, N, .inl bf))] H → va_D A [(h0, .inr (2, [.int sz1, k1, k2, k3, k4, k5, k6, k7, k8, k9, .ref hS1, .ref hB1, .int (nI tp)])), (hS1, .inl (cJ, N, .inr (.inl sf))), (hB1, .inl (cB, N, .inl bf))] → va_S A s.heap H locs → W p l e (headSpec (wsOf yX1_search cX1_search 6 none) ({ frames := 1, cells := 0, slots := 0, locals := 60 })).room s m ([.ref h0, .int (nI c1), .int 1] : List Value).toArray below meth c H locs 0 0 (MQ below (qc_t_search_in dC dI cB cI cJ cZ h0 hS1 hB1 sz1 k1 k2 k3 k4 k5 k6 k7 k8 k9 N sf bf tp c1 A) ([.ref h0, .int (nI c1), .int 1] : List Value).toArray s 0 0 A) (F0 m 44 ls [.int (hvI (bf tp))]) := by
        intro H locs hP hD hS
        refine lv_istore_n (lv' := [(3, .int (hvI (bf tp))), (0, .ref h0), (1, .int (nI c1)), (2, .int 1)]) hx hb dX1_search_44 rfl hl (by decide) rfl (fun ls hl => ?_)
        refine lv_iconst (v := 0) hx hb dX1_search_45 (by decide) ?_
        refine lv_istore (lv' := [(4, .int 0), (3, .int (hvI (bf tp))), (0, .ref h0), (1, .int (nI c1)), (2, .int 1)]) hx hb dX1_search_46 hl (by decide) rfl (fun ls hl => ?_)
        refine lv_aload_n hx hb dX1_search_48 rfl (lv_at hl 2 rfl) ?_
        refine va_get (D := (dC, dI)) (ci := 2) (v := .int (nI tp)) (C := RX1) (T := TX1) (N := 13) hx hb hts (fun w h => List.mem_cons_of_mem _ (uG_X1 w h)) hown hK hP 0 rfl rfl 12 (by decide) (hts _ (List.mem_cons_of_mem _ kw_400)) (fun _ h9 => h9) rfl dX1_search_49 ?_
        refine lv_iconst (v := 1) hx hb dX1_search_52 (by decide) ?_
        refine lv_iadd hx hb dX1_search_53 ?_
        refine lv_topi (fun x_7 ex_7 => ?_)
        have ex_7 : x_7 = nI (tp + 1) := ex_7.trans (nI_add tp 1)
        subst ex_7
        refine lv_istore (lv' := [(5, .int (nI (tp + 1))), (4, .int 0), (3, .int (hvI (bf tp))), (0, .ref h0), (1, .int (nI c1)), (2, .int 1)]) hx hb dX1_search_54 hl (by decide) rfl (fun ls hl => ?_)
        have lp_56 : ∀ (n_ : Nat) (j : Nat), j ≤ c1 → c1 - j < n_ → ∀ (H : Heap) (locs : List Loc) (ls : Array Slot), va_P (dC, dI) vwCl [(h0, .inr (2, [.int sz1, k1, k2, k3, k4, k5, k6, k7, k8, k9, .ref hS1, .ref hB1, .int (nI tp)])), (hS1, .inl (cJ, N, .inr (.inl sf))), (hB1, .inl (cB, N, .inl bf))] H → va_D A [(h0, .inr (2, [.int sz1, k1, k2, k3, k4, k5, k6, k7, k8, k9, .ref hS1, .ref hB1, .int (nI tp)])), (hS1, .inl (cJ, N, .inr (.inl sf))), (hB1, .inl (cB, N, .inl bf))] → va_S A s.heap H locs → lv_has ls 6 [(5, .int (nI (tp + 1 + j))), (4, .int (srF sf bf tp j)), (3, .int (srU bf tp j)), (0, .ref h0), (1, .int (nI c1)), (2, .int 1)] → W p l e (headSpec (wsOf yX1_search cX1_search 6 none) ({ frames := 1, cells := 0, slots := 0, locals := 60 })).room s m ([.ref h0, .int (nI c1), .int 1] : List Value).toArray below meth c H locs 0 0 (MQ below (qc_t_search_in dC dI cB cI cJ cZ h0 hS1 hB1 sz1 k1 k2 k3 k4 k5 k6 k7 k8 k9 N sf bf tp c1 A) ([.ref h0, .int (nI c1), .int 1] : List Value).toArray s 0 0 A) (F0 m 56 ls []) := by
          intro n_
          induction n_ with
          | zero => intro j hj hm; exact absurd hm (Nat.not_lt_zero _)
          | succ n_ ih_56 =>
            intro j hj hm H locs ls hP hD hS hl
            refine lv_iload hx hb dX1_search_56 (lv_at hl 0 rfl) ?_
            refine lv_aload_n hx hb dX1_search_58 rfl (lv_at hl 3 rfl) ?_
            refine va_get (D := (dC, dI)) (ci := 2) (v := .int (nI tp)) (C := RX1) (T := TX1) (N := 13) hx hb hts (fun w h => List.mem_cons_of_mem _ (uG_X1 w h)) hown hK hP 0 rfl rfl 12 (by decide) (hts _ (List.mem_cons_of_mem _ kw_400)) (fun _ h9 => h9) rfl dX1_search_59 ?_
            refine lv_iload_n hx hb dX1_search_62 rfl (lv_at hl 4 rfl) ?_
            refine lv_iadd hx hb dX1_search_63 ?_
            refine lv_topi (fun x_8 ex_8 => ?_)
            have ex_8 : x_8 = nI (tp + c1) := ex_8.trans (nI_add tp c1)
            subst ex_8
            refine lv_icmp_gt (tgt := 147) hx hb dX1_search_64 (by decide) (fun c_9 => ?_) (fun c_9 => ?_)
            · skip
              have c_9 : tp + c1 < tp + 1 + j := (nI_ltI (a := tp + c1) (b := tp + 1 + j) (by omega) (by omega)).mp c_9
              have ej : j = c1 := by omega
              refine lv_aload_n hx hb dX1_search_147 rfl (lv_at hl 3 rfl) ?_
              have mg_10 : ∀ (H : Heap) (locs : List Loc), va_P (dC, dI) vwCl [(h0, .inr (2, [.int sz1, k1, k2, k3, k4, k5, k6, k7, k8, k9, .ref hS1, .ref hB1, .int (nI tp)])), (hS1, .inl (cJ, N, .inr (.inl sf))), (hB1, .inl (cB, N, .inl bf))] H → va_D A [(h0, .inr (2, [.int sz1, k1, k2, k3, k4, k5, k6, k7, k8, k9, .ref hS1, .ref hB1, .int (nI tp)])), (hS1, .inl (cJ, N, .inr (.inl sf))), (hB1, .inl (cB, N, .inl bf))] → va_S A s.heap H locs → W p l e (headSpec (wsOf yX1_search cX1_search 6 none) ({ frames := 1, cells := 0, slots := 0, locals := 60 })).room s m ([.ref h0, .int (nI c1), .int 1] : List Value).toArray below meth c H locs 0 0 (MQ below (qc_t_search_in dC dI cB cI cJ cZ h0 hS1 hB1 sz1 k1 k2 k3 k4 k5 k6 k7 k8 k9 N sf bf tp c1 A) ([.ref h0, .int (nI c1), .int 1] : List Value).toArray s 0 0 A) (F0 m 162 ls [.long (avI 1 0 (srF sf bf tp j)), .ref h0]) := by
                intro H locs hP hD hS
                have mg_11 : ∀ (H : Heap) (locs : List Loc), va_P (dC, dI) vwCl [(h0, .inr (2, [.int sz1, k1, k2, k3, k4, k5, k6, k7, k8, k9, .ref hS1, .ref hB1, .int (nI tp)])), (hS1, .inl (cJ, N, .inr (.inl sf))), (hB1, .inl (cB, N, .inl bf))] H → va_D A [(h0, .inr (2, [.int sz1, k1, k2, k3, k4, k5, k6, k7, k8, k9, .ref hS1, .ref hB1, .int (nI tp)])), (hS1, .inl (cJ, N, .inr (.inl sf))), (hB1, .inl (cB, N, .inl bf))] → va_S A s.heap H locs → W p l e (headSpec (wsOf yX1_search cX1_search 6 none) ({ frames := 1, cells := 0, slots := 0, locals := 60 })).room s m ([.ref h0, .int (nI c1), .int 1] : List Value).toArray below meth c H locs 0 0 (MQ below (qc_t_search_in dC dI cB cI cJ cZ h0 hS1 hB1 sz1 k1 k2 k3 k4 k5 k6 k7 k8 k9 N sf bf tp c1 A) ([.ref h0, .int (nI c1), .int 1] : List Value).toArray s 0 0 A) (F0 m 176 ls [.int (seB (srF sf bf tp j) (srU bf tp j)), .long (avI 1 0 (srF sf bf tp j)), .ref h0]) := by
                  intro H locs hP hD hS
                  have hPc := hP.sub (ws' := [(h0, .inr (2, [.int sz1, k1, k2, k3, k4, k5, k6, k7, k8, k9, .ref hS1, .ref hB1, .int (nI tp)])), (hS1, .inl (cJ, N, .inr (.inl sf))), (hB1, .inl (cB, N, .inl bf))]) [0, 1, 2] rfl
                  have hDc := hD.sub (ws' := [(h0, .inr (2, [.int sz1, k1, k2, k3, k4, k5, k6, k7, k8, k9, .ref hS1, .ref hB1, .int (nI tp)])), (hS1, .inl (cJ, N, .inr (.inl sf))), (hB1, .inl (cB, N, .inl bf))]) [0, 1, 2] (by decide) rfl
                  have hKc := hK.sub (tys' := [(cB, .byte), (cI, .int), (cJ, .long), (cZ, .boolean)]) [0, 1, 2, 3] rfl
                  have hFc := va_free (wc := [(h0, .inr (2, [.int sz1, k1, k2, k3, k4, k5, k6, k7, k8, k9, .ref hS1, .ref hB1, .int (nI tp)])), (hS1, .inl (cJ, N, .inr (.inl sf))), (hB1, .inl (cB, N, .inl bf))]) hD hS hA [0, 1, 2] rfl
                  refine va_callv (va_runV (As := [.long (avI 1 0 (srF sf bf tp j)), .int (seB (srF sf bf tp j) (srU bf tp j))]) (rest := []) ⟨hx, hb, hml, hown, hts⟩ (t_X1_push l dC dI H.size cB cI cJ cZ h0 hS1 hB1 sz1 k1 k2 k3 k4 k5 k6 k7 k8 k9 N sf bf tp (avI 1 0 (srF sf bf tp j)) (seB (srF sf bf tp j) (srU bf tp j)) (by omega) (by omega)) (cwV 2 hts (gd_all (in_V kw_1415 kw_1417 kw_73 kw_189 kc_X1_push)) rfl rfl rfl (by decide +kernel) ⟨Nat.le_of_ble_eq_true rfl, Nat.le_of_ble_eq_true rfl⟩) ⟨fun a U g mk q => by obtain ⟨q0, q1, qP, qK, qD⟩ := q; exact ⟨q0, q1, qP, va_K.moved (u := U) (U := U.calling g mk a) (Vm.Alike.refl U.vm) qK, qD⟩, va_recv hKc hPc (ci := 2) (q0 := 0) rfl rfl, fun U hU hW => ⟨rfl, by rw [hU], by rw [hU]; exact hPc, va_K.moved hW.alike hKc, hDc.weaken (fun _ _ _ _ => trivial)⟩⟩ rfl rfl hl.1 rfl (lv_room (Nat.le_of_ble_eq_true rfl)) dX1_search_176 ⟨Nat.le_of_ble_eq_true rfl, Nat.le_of_ble_eq_true rfl⟩) hS (fun q _ h => hFc q h) hFc (fun u t_ H1 locs ht hvm hw hB hz1 hk1 hS => ?_)
                  obtain ⟨hP1, hK1, hD1⟩ := hB
                  rw [ht] at hP1
                  have hK1 := va_K.moved hvm.symm hK1
                  obtain ⟨hP, hD⟩ := va_join (wr := []) (w1 := [(h0, .inr (2, [.int sz1, k1, k2, k3, k4, k5, k6, k7, k8, k9, .ref hS1, .ref hB1, .int (nI (tp + 1))])), (hS1, .inl (cJ, N, .inr (.inl (vp_updL sf tp (pv (avI 1 0 (srF sf bf tp j)) (seB (srF sf bf tp j) (srU bf tp j))))))), (hB1, .inl (cB, N, .inl (upd bf tp (pb (seB (srF sf bf tp j) (srU bf tp j))))))]) hP hD [0, 1, 2] [] rfl rfl (by decide) (by decide) hk1 hFc hP1 hD1
                  have hK := (hK.sub (tys' := []) [] rfl).app hK1
                  generalize H1 = H at hP hS ⊢
                  have hP : va_P (dC, dI) vwCl [(h0, .inr (2, [.int sz1, k1, k2, k3, k4, k5, k6, k7, k8, k9, .ref hS1, .ref hB1, .int (nI (tp + 1))])), (hS1, .inl (cJ, N, .inr (.inl (vp_updL sf tp (pv (avI 1 0 (srF sf bf tp j)) (seB (srF sf bf tp j) (srU bf tp j))))))), (hB1, .inl (cB, N, .inl (upd bf tp (pb (seB (srF sf bf tp j) (srU bf tp j))))))] H := hP
                  have hD : va_D A [(h0, .inr (2, [.int sz1, k1, k2, k3, k4, k5, k6, k7, k8, k9, .ref hS1, .ref hB1, .int (nI (tp + 1))])), (hS1, .inl (cJ, N, .inr (.inl (vp_updL sf tp (pv (avI 1 0 (srF sf bf tp j)) (seB (srF sf bf tp j) (srU bf tp j))))))), (hB1, .inl (cB, N, .inl (upd bf tp (pb (seB (srF sf bf tp j) (srU bf tp j))))))] := hD
                  have hK : va_K (dC, dI) vwCl [(cB, .byte), (cI, .int), (cJ, .long), (cZ, .boolean)] s := hK
                  have hP9 := hP.sub (ws' := [(h0, .inr (2, [.int sz1, k1, k2, k3, k4, k5, k6, k7, k8, k9, .ref hS1, .ref hB1, .int (nI (tp + 1))])), (hS1, .inl (cJ, N, .inr (.inl (vp_updL sf tp (pv (avI 1 0 (srF sf bf tp j)) (seB (srF sf bf tp j) (srU bf tp j))))))), (hB1, .inl (cB, N, .inl (upd bf tp (pb (seB (srF sf bf tp j) (srU bf tp j))))))]) [0, 1, 2] rfl
                  have hD9 := hD.sub (ws' := [(h0, .inr (2, [.int sz1, k1, k2, k3, k4, k5, k6, k7, k8, k9, .ref hS1, .ref hB1, .int (nI (tp + 1))])), (hS1, .inl (cJ, N, .inr (.inl (vp_updL sf tp (pv (avI 1 0 (srF sf bf tp j)) (seB (srF sf bf tp j) (srU bf tp j))))))), (hB1, .inl (cB, N, .inl (upd bf tp (pb (seB (srF sf bf tp j) (srU bf tp j))))))]) [0, 1, 2] (by decide) rfl
                  have hK9 := hK.sub (tys' := [(cB, .byte), (cI, .int), (cJ, .long), (cZ, .boolean)]) [0, 1, 2, 3] rfl
                  exact W.vret hx hb hr (fun t_ ht hW => ⟨⟨j, rfl, ej, by rw [ht]; exact hP9, va_K.moved hW.alike hK9, hD9⟩, hS.F ht⟩) hS.2.2 dX1_search_179
                refine lv_iload hx hb dX1_search_162 (lv_at hl 1 rfl) ?_
                refine lv_if_ne (tgt := 175) hx hb dX1_search_164 (by decide) (fun c_13 => ?_) (fun c_13 => ?_)
                · skip
                  refine lv_iconst (v := 0) hx hb dX1_search_175 (by decide) ?_
                  exact W.eq (by unfold seB; rw [if_neg c_13]) (mg_11 _ _ hP hD hS)
                · skip
                  refine lv_iload_n hx hb dX1_search_167 rfl (lv_at hl 2 rfl) ?_
                  refine lv_if_eq (tgt := 175) hx hb dX1_search_168 (by decide) (fun c_14 => ?_) (fun c_14 => ?_)
                  · skip
                    refine lv_iconst (v := 0) hx hb dX1_search_175 (by decide) ?_
                    exact W.eq (by unfold seB; rw [if_pos c_13, if_pos c_14]) (mg_11 _ _ hP hD hS)
                  · skip
                    refine lv_iconst (v := 1) hx hb dX1_search_171 (by decide) ?_
                    refine lv_goto (tgt := 176) hx hb dX1_search_172 (by decide) ?_
                    exact W.eq (by unfold seB; rw [if_pos c_13, if_neg c_14]) (mg_11 _ _ hP hD hS)
              refine lv_iload hx hb dX1_search_148 (lv_at hl 1 rfl) ?_
              refine lv_if_eq (tgt := 158) hx hb dX1_search_150 (by decide) (fun c_15 => ?_) (fun c_15 => ?_)
              · skip
                refine lv_iconst (v := 1) hx hb dX1_search_158 (by decide) ?_
                refine lv_iload_n hx hb dX1_search_159 rfl (lv_at hl 5 rfl) ?_
                refine lv_isub hx hb dX1_search_160 ?_
                refine lv_topi (fun x_16 ex_16 => ?_)
                have ex_16 : x_16 = 0 := ex_16.trans (by decide)
                subst ex_16
                refine lv_i2l hx hb dX1_search_161 rfl ?_
                exact W.eq (by unfold avI; rw [if_pos c_15]) (mg_10 _ _ hP hD hS)
              · skip
                refine lv_iload_n hx hb dX1_search_153 rfl (lv_at hl 5 rfl) ?_
                refine lv_i2l hx hb dX1_search_154 rfl ?_
                refine lv_goto (tgt := 162) hx hb dX1_search_155 (by decide) ?_
                exact W.eq (by unfold avI; rw [if_neg c_15]) (mg_10 _ _ hP hD hS)
            · skip
              have c_9 : ¬ (tp + c1 < tp + 1 + j) := fun h => c_9 ((nI_ltI (a := tp + c1) (b := tp + 1 + j) (by omega) (by omega)).mpr h)
              have mg_17 : ∀ (H : Heap) (locs : List Loc), va_P (dC, dI) vwCl [(h0, .inr (2, [.int sz1, k1, k2, k3, k4, k5, k6, k7, k8, k9, .ref hS1, .ref hB1, .int (nI tp)])), (hS1, .inl (cJ, N, .inr (.inl sf))), (hB1, .inl (cB, N, .inl bf))] H → va_D A [(h0, .inr (2, [.int sz1, k1, k2, k3, k4, k5, k6, k7, k8, k9, .ref hS1, .ref hB1, .int (nI tp)])), (hS1, .inl (cJ, N, .inr (.inl sf))), (hB1, .inl (cB, N, .inl bf))] → va_S A s.heap H locs → W p l e (headSpec (wsOf yX1_search cX1_search 6 none) ({ frames := 1, cells := 0, slots := 0, locals := 60 })).room s m ([.ref h0, .int (nI c1), .int 1] : List Value).toArray below meth c H locs 0 0 (MQ below (qc_t_search_in dC dI cB cI cJ cZ h0 hS1 hB1 sz1 k1 k2 k3 k4 k5 k6 k7 k8 k9 N sf bf tp c1 A) ([.ref h0, .int (nI c1), .int 1] : List Value).toArray s 0 0 A) (F0 m 86 ls [.int (unS (srU bf tp j) (bf (tp + 1 + j)))]) := by
                intro H locs hP hD hS
                refine lv_istore_n (lv' := [(3, .int (unS (srU bf tp j) (bf (tp + 1 + j)))), (5, .int (nI (tp + 1 + j))), (4, .int (srF sf bf tp j)), (0, .ref h0), (1, .int (nI c1)), (2, .int 1)]) hx hb dX1_search_86 rfl hl (by decide) rfl (fun ls hl => ?_)
                have mg_18 : ∀ (H : Heap) (locs : List Loc), va_P (dC, dI) vwCl [(h0, .inr (2, [.int sz1, k1, k2, k3, k4, k5, k6, k7, k8, k9, .ref hS1, .ref hB1, .int (nI tp)])), (hS1, .inl (cJ, N, .inr (.inl sf))), (hB1, .inl (cB, N, .inl bf))] H → va_D A [(h0, .inr (2, [.int sz1, k1, k2, k3, k4, k5, k6, k7, k8, k9, .ref hS1, .ref hB1, .int (nI tp)])), (hS1, .inl (cJ, N, .inr (.inl sf))), (hB1, .inl (cB, N, .inl bf))] → va_S A s.heap H locs → W p l e (headSpec (wsOf yX1_search cX1_search 6 none) ({ frames := 1, cells := 0, slots := 0, locals := 60 })).room s m ([.ref h0, .int (nI c1), .int 1] : List Value).toArray below meth c H locs 0 0 (MQ below (qc_t_search_in dC dI cB cI cJ cZ h0 hS1 hB1 sz1 k1 k2 k3 k4 k5 k6 k7 k8 k9 N sf bf tp c1 A) ([.ref h0, .int (nI c1), .int 1] : List Value).toArray s 0 0 A) (F0 m 139 ls [.int (fnS (srF sf bf tp j) (bf tp) (bf (tp + 1 + j)) (sf tp) (sf (tp + 1 + j)))]) := by
                  intro H locs hP hD hS
                  refine lv_istore (lv' := [(4, .int (fnS (srF sf bf tp j) (bf tp) (bf (tp + 1 + j)) (sf tp) (sf (tp + 1 + j)))), (3, .int (unS (srU bf tp j) (bf (tp + 1 + j)))), (5, .int (nI (tp + 1 + j))), (0, .ref h0), (1, .int (nI c1)), (2, .int 1)]) hx hb dX1_search_139 hl (by decide) rfl (fun ls hl => ?_)
                  refine lv_iinc (v := nI (tp + 1 + j + 1)) (lv' := [(5, .int (nI (tp + 1 + j + 1))), (4, .int (fnS (srF sf bf tp j) (bf tp) (bf (tp + 1 + j)) (sf tp) (sf (tp + 1 + j)))), (3, .int (unS (srU bf tp j) (bf (tp + 1 + j)))), (0, .ref h0), (1, .int (nI c1)), (2, .int 1)]) hx hb dX1_search_141 hl (k := 2) rfl (nI_add (tp + 1 + j) 1) (by decide) rfl (fun ls hl => ?_)
                  refine lv_goto (tgt := 56) hx hb dX1_search_144 (by decide) ?_
                  exact ih_56 (j + 1) (by omega) (by omega) _ _ _ (hP.sub [0, 1, 2] rfl) (hD.sub [0, 1, 2] (by decide) rfl) hS (lv_sub hl [0, 1, 2, 3, 4, 5] rfl)
                refine lv_iload hx hb dX1_search_87 (lv_at hl 2 rfl) ?_
                refine lv_if_ne (tgt := 134) hx hb dX1_search_89 (by decide) (fun c_19 => ?_) (fun c_19 => ?_)
                · skip
                  refine lv_iconst (v := 1) hx hb dX1_search_134 (by decide) ?_
                  refine lv_goto (tgt := 139) hx hb dX1_search_135 (by decide) ?_
                  exact W.eq (by unfold fnS; rw [if_neg c_19]) (mg_18 _ _ hP hD hS)
                · skip
                  refine lv_aload_n hx hb dX1_search_92 rfl (lv_at hl 3 rfl) ?_
                  refine va_get (D := (dC, dI)) (ci := 2) (v := .ref hB1) (C := RX1) (T := TX1) (N := 13) hx hb hts (fun w h => List.mem_cons_of_mem _ (uG_X1 w h)) hown hK hP 0 rfl rfl 11 (by decide) (hts _ (List.mem_cons_of_mem _ kw_399)) (fun _ h9 => h9) rfl dX1_search_93 ?_
                  refine lv_aload_n hx hb dX1_search_96 rfl (lv_at hl 3 rfl) ?_
                  refine va_get (D := (dC, dI)) (ci := 2) (v := .int (nI tp)) (C := RX1) (T := TX1) (N := 13) hx hb hts (fun w h => List.mem_cons_of_mem _ (uG_X1 w h)) hown hK hP 0 rfl rfl 12 (by decide) (hts _ (List.mem_cons_of_mem _ kw_400)) (fun _ h9 => h9) rfl dX1_search_97 ?_
                  refine va_bald hx hb hK hP 2 0 rfl rfl (i := (nI tp)) (vp_in_nI (n := tp) (N := N) (by omega) (by omega)) dX1_search_100 ?_
                  refine lv_topi (fun x_20 ex_20 => ?_)
                  have ex_20 : x_20 = bf tp := ex_20.trans (congrArg bf (nI_clamp (n := tp) (by omega)))
                  subst ex_20
                  refine lv_if_ne (tgt := 138) hx hb dX1_search_101 (by decide) (fun c_21 => ?_) (fun c_21 => ?_)
                  · skip
                    refine lv_iconst (v := 0) hx hb dX1_search_138 (by decide) ?_
                    exact W.eq (by unfold fnS; rw [if_pos c_19, if_neg c_21]) (mg_18 _ _ hP hD hS)
                  · skip
                    refine lv_aload_n hx hb dX1_search_104 rfl (lv_at hl 3 rfl) ?_
                    refine va_get (D := (dC, dI)) (ci := 2) (v := .ref hB1) (C := RX1) (T := TX1) (N := 13) hx hb hts (fun w h => List.mem_cons_of_mem _ (uG_X1 w h)) hown hK hP 0 rfl rfl 11 (by decide) (hts _ (List.mem_cons_of_mem _ kw_399)) (fun _ h9 => h9) rfl dX1_search_105 ?_
                    refine lv_iload hx hb dX1_search_108 (lv_at hl 1 rfl) ?_
                    refine va_bald hx hb hK hP 2 0 rfl rfl (i := (nI (tp + 1 + j))) (vp_in_nI (n := tp + 1 + j) (N := N) (by omega) (by omega)) dX1_search_110 ?_
                    refine lv_topi (fun x_22 ex_22 => ?_)
                    have ex_22 : x_22 = bf (tp + 1 + j) := ex_22.trans (congrArg bf (nI_clamp (n := tp + 1 + j) (by omega)))
                    subst ex_22
                    refine lv_if_ne (tgt := 138) hx hb dX1_search_111 (by decide) (fun c_23 => ?_) (fun c_23 => ?_)
                    · skip
                      refine lv_iconst (v := 0) hx hb dX1_search_138 (by decide) ?_
                      exact W.eq (by unfold fnS; rw [if_pos c_19, if_pos c_21, if_neg c_23]) (mg_18 _ _ hP hD hS)
                    · skip
                      refine lv_aload_n hx hb dX1_search_114 rfl (lv_at hl 3 rfl) ?_
                      refine va_get (D := (dC, dI)) (ci := 2) (v := .ref hS1) (C := RX1) (T := TX1) (N := 13) hx hb hts (fun w h => List.mem_cons_of_mem _ (uG_X1 w h)) hown hK hP 0 rfl rfl 10 (by decide) (hts _ (List.mem_cons_of_mem _ kw_398)) (fun _ h9 => h9) rfl dX1_search_115 ?_
                      refine lv_iload hx hb dX1_search_118 (lv_at hl 1 rfl) ?_
                      refine va_lald hx hb hK hP 1 2 rfl rfl (i := (nI (tp + 1 + j))) (vp_in_nI (n := tp + 1 + j) (N := N) (by omega) (by omega)) dX1_search_120 ?_
                      refine lv_topl (fun x_24 ex_24 => ?_)
                      have ex_24 : x_24 = sf (tp + 1 + j) := ex_24.trans (congrArg sf (nI_clamp (n := tp + 1 + j) (by omega)))
                      subst ex_24
                      refine lv_aload_n hx hb dX1_search_121 rfl (lv_at hl 3 rfl) ?_
                      refine va_get (D := (dC, dI)) (ci := 2) (v := .ref hS1) (C := RX1) (T := TX1) (N := 13) hx hb hts (fun w h => List.mem_cons_of_mem _ (uG_X1 w h)) hown hK hP 0 rfl rfl 10 (by decide) (hts _ (List.mem_cons_of_mem _ kw_398)) (fun _ h9 => h9) rfl dX1_search_122 ?_
                      refine lv_aload_n hx hb dX1_search_125 rfl (lv_at hl 3 rfl) ?_
                      refine va_get (D := (dC, dI)) (ci := 2) (v := .int (nI tp)) (C := RX1) (T := TX1) (N := 13) hx hb hts (fun w h => List.mem_cons_of_mem _ (uG_X1 w h)) hown hK hP 0 rfl rfl 12 (by decide) (hts _ (List.mem_cons_of_mem _ kw_400)) (fun _ h9 => h9) rfl dX1_search_126 ?_
                      refine va_lald hx hb hK hP 1 2 rfl rfl (i := (nI tp)) (vp_in_nI (n := tp) (N := N) (by omega) (by omega)) dX1_search_129 ?_
                      refine lv_topl (fun x_25 ex_25 => ?_)
                      have ex_25 : x_25 = sf tp := ex_25.trans (congrArg sf (nI_clamp (n := tp) (by omega)))
                      subst ex_25
                      refine W.lcmp hx hb dX1_search_130 ?_
                      refine lv_if_ne (tgt := 138) hx hb dX1_search_131 (by decide) (fun c_26 => ?_) (fun c_26 => ?_)
                      · skip
                        have c_26 : ¬ ((sf (tp + 1 + j)) = (sf tp)) := fun h => c_26 ((lg_cmp_eq (sf (tp + 1 + j)) (sf tp)).mpr h)
                        refine lv_iconst (v := 0) hx hb dX1_search_138 (by decide) ?_
                        exact W.eq (by unfold fnS; rw [if_pos c_19, if_pos c_21, if_pos c_23, if_neg c_26]) (mg_18 _ _ hP hD hS)
                      · skip
                        have c_26 : (sf (tp + 1 + j)) = (sf tp) := (lg_cmp_eq (sf (tp + 1 + j)) (sf tp)).mp c_26
                        refine lv_iconst (v := 1) hx hb dX1_search_134 (by decide) ?_
                        refine lv_goto (tgt := 139) hx hb dX1_search_135 (by decide) ?_
                        exact W.eq (by unfold fnS; rw [if_pos c_19, if_pos c_21, if_pos c_23, if_pos c_26]) (mg_18 _ _ hP hD hS)
              refine lv_iload_n hx hb dX1_search_67 rfl (lv_at hl 2 rfl) ?_
              refine lv_if_ne (tgt := 81) hx hb dX1_search_68 (by decide) (fun c_27 => ?_) (fun c_27 => ?_)
              · skip
                refine lv_iconst (v := 1) hx hb dX1_search_81 (by decide) ?_
                refine lv_goto (tgt := 86) hx hb dX1_search_82 (by decide) ?_
                exact W.eq (by unfold unS; rw [if_neg c_27]) (mg_17 _ _ hP hD hS)
              · skip
                refine lv_aload_n hx hb dX1_search_71 rfl (lv_at hl 3 rfl) ?_
                refine va_get (D := (dC, dI)) (ci := 2) (v := .ref hB1) (C := RX1) (T := TX1) (N := 13) hx hb hts (fun w h => List.mem_cons_of_mem _ (uG_X1 w h)) hown hK hP 0 rfl rfl 11 (by decide) (hts _ (List.mem_cons_of_mem _ kw_399)) (fun _ h9 => h9) rfl dX1_search_72 ?_
                refine lv_iload hx hb dX1_search_75 (lv_at hl 0 rfl) ?_
                refine va_bald hx hb hK hP 2 0 rfl rfl (i := (nI (tp + 1 + j))) (vp_in_nI (n := tp + 1 + j) (N := N) (by omega) (by omega)) dX1_search_77 ?_
                refine lv_topi (fun x_28 ex_28 => ?_)
                have ex_28 : x_28 = bf (tp + 1 + j) := ex_28.trans (congrArg bf (nI_clamp (n := tp + 1 + j) (by omega)))
                subst ex_28
                refine lv_if_eq (tgt := 85) hx hb dX1_search_78 (by decide) (fun c_29 => ?_) (fun c_29 => ?_)
                · skip
                  refine lv_iconst (v := 0) hx hb dX1_search_85 (by decide) ?_
                  exact W.eq (by unfold unS; rw [if_pos c_27, if_pos c_29]) (mg_17 _ _ hP hD hS)
                · skip
                  refine lv_iconst (v := 1) hx hb dX1_search_81 (by decide) ?_
                  refine lv_goto (tgt := 86) hx hb dX1_search_82 (by decide) ?_
                  exact W.eq (by unfold unS; rw [if_pos c_27, if_neg c_29]) (mg_17 _ _ hP hD hS)
        exact lp_56 _ 0 (Nat.zero_le _) (Nat.lt_succ_self _) _ _ _ (hP.sub [0, 1, 2] rfl) (hD.sub [0, 1, 2] (by decide) rfl) hS (lv_sub hl [0, 1, 2, 3, 4, 5] rfl)
      refine lv_aload_n hx hb dX1_search_27 rfl (lv_at hl 0 rfl) ?_
      refine va_get (D := (dC, dI)) (ci := 2) (v := .ref hB1) (C := RX1) (T := TX1) (N := 13) hx hb hts (fun w h => List.mem_cons_of_mem _ (uG_X1 w h)) hown hK hP 0 rfl rfl 11 (by decide) (hts _ (List.mem_cons_of_mem _ kw_399)) (fun _ h9 => h9) rfl dX1_search_28 ?_
      refine lv_aload_n hx hb dX1_search_31 rfl (lv_at hl 0 rfl) ?_
      refine va_get (D := (dC, dI)) (ci := 2) (v := .int (nI tp)) (C := RX1) (T := TX1) (N := 13) hx hb hts (fun w h => List.mem_cons_of_mem _ (uG_X1 w h)) hown hK hP 0 rfl rfl 12 (by decide) (hts _ (List.mem_cons_of_mem _ kw_400)) (fun _ h9 => h9) rfl dX1_search_32 ?_
      refine va_bald hx hb hK hP 2 0 rfl rfl (i := (nI tp)) (vp_in_nI (n := tp) (N := N) (by omega) (by omega)) dX1_search_35 ?_
      refine lv_topi (fun x_30 ex_30 => ?_)
      have ex_30 : x_30 = bf tp := ex_30.trans (congrArg bf (nI_clamp (n := tp) (by omega)))
      subst ex_30
      refine lv_if_eq (tgt := 43) hx hb dX1_search_36 (by decide) (fun c_31 => ?_) (fun c_31 => ?_)
      · skip
        refine lv_iconst (v := 0) hx hb dX1_search_43 (by decide) ?_
        exact W.eq (by unfold hvI; rw [if_pos c_31]) (mg_6 _ _ hP hD hS)
      · skip
        refine lv_iconst (v := 1) hx hb dX1_search_39 (by decide) ?_
        refine lv_goto (tgt := 44) hx hb dX1_search_40 (by decide) ?_
        exact W.eq (by unfold hvI; rw [if_neg c_31]) (mg_6 _ _ hP hD hS)
    · skip
      have c_3 : ¬ (c1 + 1 ≤ tp + (c1 + 1)) := fun h => c_3 ((nI_leI (a := c1 + 1) (b := tp + (c1 + 1)) (by omega) (by omega)).mpr h)
      exact absurd (show c1 + 1 ≤ tp + (c1 + 1) by omega) c_3
abbrev cs_t_search_notin (cB cI cJ cZ : ClassId) (h0 hS1 hB1 : Nat) (sz1 : Int32) (k1 k2 k3 k4 k5 k6 k7 k8 k9 : Value) (N : Nat) (sf : Nat → Int64) (bf : Nat → Int32) (tp : Nat) (c1 : Nat) : va_W := [(h0, .inr (2, [.int sz1, k1, k2, k3, k4, k5, k6, k7, k8, k9, .ref hS1, .ref hB1, .int (nI (tp + (c1 + 1)))])), (hS1, .inl (cJ, N, .inr (.inl sf))), (hB1, .inl (cB, N, .inl bf))]
abbrev pc_t_search_notin (dC : Nat → ClassId) (dI : Nat → Nat → Nat) (sz : Nat) (cB cI cJ cZ : ClassId) (h0 hS1 hB1 : Nat) (sz1 : Int32) (k1 k2 k3 k4 k5 k6 k7 k8 k9 : Value) (N : Nat) (sf : Nat → Int64) (bf : Nat → Int32) (tp : Nat) (c1 : Nat) : Array Value → State → Prop := va_Pc [.ref h0, .int (nI c1), .int 0] (fun U => U.heap.size = sz ∧ va_P (dC, dI) vwCl [(h0, .inr (2, [.int sz1, k1, k2, k3, k4, k5, k6, k7, k8, k9, .ref hS1, .ref hB1, .int (nI (tp + (c1 + 1)))])), (hS1, .inl (cJ, N, .inr (.inl sf))), (hB1, .inl (cB, N, .inl bf))] U.heap ∧ va_K (dC, dI) vwCl [(cB, .byte), (cI, .int), (cJ, .long), (cZ, .boolean)] U ∧ va_D (fun _ => True) [(h0, .inr (2, [.int sz1, k1, k2, k3, k4, k5, k6, k7, k8, k9, .ref hS1, .ref hB1, .int (nI (tp + (c1 + 1)))])), (hS1, .inl (cJ, N, .inr (.inl sf))), (hB1, .inl (cB, N, .inl bf))])
abbrev qc_t_search_notin (dC : Nat → ClassId) (dI : Nat → Nat → Nat) (cB cI cJ cZ : ClassId) (h0 hS1 hB1 : Nat) (sz1 : Int32) (k1 k2 k3 k4 k5 k6 k7 k8 k9 : Value) (N : Nat) (sf : Nat → Int64) (bf : Nat → Int32) (tp : Nat) (c1 : Nat) (A : Nat → Prop) : Array Value → State → Outcome → State → Prop := va_Qv (fun (u : Nat) => match u with | j2 => j2 = c1) (fun (u : Nat) t_ => match u with | j2 => va_P (dC, dI) vwCl [(h0, .inr (2, [.int sz1, k1, k2, k3, k4, k5, k6, k7, k8, k9, .ref hS1, .ref hB1, .int (nI (tp + 1))])), (hS1, .inl (cJ, N, .inr (.inl (vp_updL sf tp (pv (avI 0 1 (srF sf bf tp j2)) (seB (srF sf bf tp j2) (srU bf tp j2))))))), (hB1, .inl (cB, N, .inl (upd bf tp (pb (seB (srF sf bf tp j2) (srU bf tp j2))))))] t_.heap ∧ va_K (dC, dI) vwCl [(cB, .byte), (cI, .int), (cJ, .long), (cZ, .boolean)] t_ ∧ va_D A [(h0, .inr (2, [.int sz1, k1, k2, k3, k4, k5, k6, k7, k8, k9, .ref hS1, .ref hB1, .int (nI (tp + 1))])), (hS1, .inl (cJ, N, .inr (.inl (vp_updL sf tp (pv (avI 0 1 (srF sf bf tp j2)) (seB (srF sf bf tp j2) (srU bf tp j2))))))), (hB1, .inl (cB, N, .inl (upd bf tp (pb (seB (srF sf bf tp j2) (srU bf tp j2))))))]) A
set_option maxHeartbeats 4000000 in
set_option maxRecDepth 100000 in
theorem t_search_notin (l : Launch) (dC : Nat → ClassId) (dI : Nat → Nat → Nat) (sz : Nat) (cB cI cJ cZ : ClassId) (h0 hS1 hB1 : Nat) (sz1 : Int32) (k1 k2 k3 k4 k5 k6 k7 k8 k9 : Value) (N : Nat) (sf : Nat → Int64) (bf : Nat → Int32) (tp : Nat) (c1 : Nat) (hN : N < 1000000) (htp : tp + (c1 + 1) ≤ N) : Met l yX1_search (wsOf yX1_search cX1_search 6 none) ({ frames := 1, cells := 0, slots := 0, locals := 60 }) (pc_t_search_notin dC dI sz cB cI cJ cZ h0 hS1 hB1 sz1 k1 k2 k3 k4 k5 k6 k7 k8 k9 N sf bf tp c1) (qc_t_search_notin dC dI cB cI cJ cZ h0 hS1 hB1 sz1 k1 k2 k3 k4 k5 k6 k7 k8 k9 N sf bf tp c1 (va_A (cs_t_search_notin cB cI cJ cZ h0 hS1 hB1 sz1 k1 k2 k3 k4 k5 k6 k7 k8 k9 N sf bf tp c1) sz)) 0 0 (va_A (cs_t_search_notin cB cI cJ cZ h0 hS1 hB1 sz1 k1 k2 k3 k4 k5 k6 k7 k8 k9 N sf bf tp c1) sz) := by
  refine Met.ofW (cc := cX1_search) (maxL := 6) (ret := none) (by decide) rfl ?_
  intro p e s m args below meth c s₁ B hml hv
  obtain ⟨rfl, hsz, hP, hK, hD0⟩ := hv
  have hx := B.exec
  have hb := B.bytes
  have hr := B.returns
  have hts := atoms_spec (ws := (wsOf yX1_search cX1_search 6 none)) B.pre
  have hown : s.vm.findClass RX1 = some m.cls := findClass_of_methodNamed B.named
  have hlocks := B.notSynchronized
  subst hsz
  have hD := hD0.self (sz := s.heap.size)
  generalize hAe : va_A (cs_t_search_notin cB cI cJ cZ h0 hS1 hB1 sz1 k1 k2 k3 k4 k5 k6 k7 k8 k9 N sf bf tp c1) s.heap.size = A at hD ⊢
  have hA : ∀ q : Nat, s.heap.size ≤ q → A q := fun q h => by rw [← hAe]; exact Or.inr h
  have hS : va_S A s.heap s.heap [] := va_S.rf
  have hP : va_P (dC, dI) vwCl [(h0, .inr (2, [.int sz1, k1, k2, k3, k4, k5, k6, k7, k8, k9, .ref hS1, .ref hB1, .int (nI (tp + (c1 + 1)))])), (hS1, .inl (cJ, N, .inr (.inl sf))), (hB1, .inl (cB, N, .inl bf))] s.heap := hP
  have hl := lv_entry ([.ref h0, .int (nI c1), .int 0]) (n := 6) (Nat.le_of_ble_eq_true rfl)
  rw [lg_entry_eq]
  generalize (lg_sl ([.ref h0, .int (nI c1), .int 0]) ++ List.replicate (6 - (lg_sl ([.ref h0, .int (nI c1), .int 0])).length) Slot.unset).toArray = ls at hl ⊢
  have hl : lv_has ls 6 [(0, .ref h0), (1, .int (nI c1)), (2, .int 0)] := hl
  refine lv_iload_n hx hb dX1_search_0 rfl (lv_at hl 1 rfl) ?_
  refine lv_if_lt (tgt := 14) hx hb dX1_search_1 (by decide) (fun c_1 => ?_) (fun c_1 => ?_)
  · skip
    have c_1 : c1 < 0 := (nI_ltI (a := c1) (b := 0) (by omega) (by omega)).mp c_1
    exact absurd c_1 (by omega)
  · skip
    have c_1 : ¬ (c1 < 0) := fun h => c_1 ((nI_ltI (a := c1) (b := 0) (by omega) (by omega)).mpr h)
    refine lv_aload_n hx hb dX1_search_4 rfl (lv_at hl 0 rfl) ?_
    refine va_get (D := (dC, dI)) (ci := 2) (v := .int (nI (tp + (c1 + 1)))) (C := RX1) (T := TX1) (N := 13) hx hb hts (fun w h => List.mem_cons_of_mem _ (uG_X1 w h)) hown hK hP 0 rfl rfl 12 (by decide) (hts _ (List.mem_cons_of_mem _ kw_400)) (fun _ h9 => h9) rfl dX1_search_5 ?_
    refine lv_iload_n hx hb dX1_search_8 rfl (lv_at hl 1 rfl) ?_
    refine lv_iconst (v := 1) hx hb dX1_search_9 (by decide) ?_
    refine lv_iadd hx hb dX1_search_10 ?_
    refine lv_topi (fun x_2 ex_2 => ?_)
    have ex_2 : x_2 = nI (c1 + 1) := ex_2.trans (nI_add c1 1)
    subst ex_2
    refine lv_icmp_ge (tgt := 15) hx hb dX1_search_11 (by decide) (fun c_3 => ?_) (fun c_3 => ?_)
    · skip
      have c_3 : c1 + 1 ≤ tp + (c1 + 1) := (nI_leI (a := c1 + 1) (b := tp + (c1 + 1)) (by omega) (by omega)).mp c_3
      refine lv_aload_n hx hb dX1_search_15 rfl (lv_at hl 0 rfl) ?_
      refine lv_dup hx hb dX1_search_16 rfl ?_
      refine va_get (D := (dC, dI)) (ci := 2) (v := .int (nI (tp + (c1 + 1)))) (C := RX1) (T := TX1) (N := 13) hx hb hts (fun w h => List.mem_cons_of_mem _ (uG_X1 w h)) hown hK hP 0 rfl rfl 12 (by decide) (hts _ (List.mem_cons_of_mem _ kw_400)) (fun _ h9 => h9) rfl dX1_search_17 ?_
      refine lv_iload_n hx hb dX1_search_20 rfl (lv_at hl 1 rfl) ?_
      refine lv_iconst (v := 1) hx hb dX1_search_21 (by decide) ?_
      refine lv_iadd hx hb dX1_search_22 ?_
      refine lv_topi (fun x_4 ex_4 => ?_)
      have ex_4 : x_4 = nI (c1 + 1) := ex_4.trans (nI_add c1 1)
      subst ex_4
      refine lv_isub hx hb dX1_search_23 ?_
      refine lv_topi (fun x_5 ex_5 => ?_)
      have ex_5 : x_5 = nI tp := by exact ex_5.trans (pk_sub (a := tp + (c1 + 1)) (b := c1 + 1) (by omega) |>.trans (by rw [Nat.add_sub_cancel]))
      subst ex_5
      refine va_put (D := (dC, dI)) (ci := 2) (v := .int (nI tp)) (ty := .int) (C := RX1) (T := TX1) (N := 13) hx hb hts (fun w h => List.mem_cons_of_mem _ (uG_X1 w h)) tyX1 tyX1_ok nmX1 hown hK hP hD hS 0 rfl rfl 12 (by decide) (hts _ (List.mem_cons_of_mem _ kw_400)) (fun _ h9 => h9) rfl (by decide +kernel) rfl rfl (Nat.le_of_ble_eq_true rfl) dX1_search_24 (fun H locs hP hD hS => ?_)
      have hP : va_P (dC, dI) vwCl [(h0, .inr (2, [.int sz1, k1, k2, k3, k4, k5, k6, k7, k8, k9, .ref hS1, .ref hB1, .int (nI tp)])), (hS1, .inl (cJ, N, .inr (.inl sf))), (hB1, .inl (cB, N, .inl bf))] H := hP
      have hD : va_D A [(h0, .inr (2, [.int sz1, k1, k2, k3, k4, k5, k6, k7, k8, k9, .ref hS1, .ref hB1, .int (nI tp)])), (hS1, .inl (cJ, N, .inr (.inl sf))), (hB1, .inl (cB, N, .inl bf))] := hD
      have mg_6 : ∀ (H : Heap) (locs : List Loc), va_P (dC, dI) vwCl [(h0, .inr (2, [.int sz1, k1, k2, k3, k4, k5, k6, k7, k8, k9, .ref hS1, .ref hB1, .int (nI tp)])), (hS1, .inl (cJ, N, .inr (.inl sf))), (hB1, .inl (cB, N, .inl bf))] H → va_D A [(h0, .inr (2, [.int sz1, k1, k2, k3, k4, k5, k6, k7, k8, k9, .ref hS1, .ref hB1, .int (nI tp)])), (hS1, .inl (cJ, N, .inr (.inl sf))), (hB1, .inl (cB, N, .inl bf))] → va_S A s.heap H locs → W p l e (headSpec (wsOf yX1_search cX1_search 6 none) ({ frames := 1, cells := 0, slots := 0, locals := 60 })).room s m ([.ref h0, .int (nI c1), .int 0] : List Value).toArray below meth c H locs 0 0 (MQ below (qc_t_search_notin dC dI cB cI cJ cZ h0 hS1 hB1 sz1 k1 k2 k3 k4 k5 k6 k7 k8 k9 N sf bf tp c1 A) ([.ref h0, .int (nI c1), .int 0] : List Value).toArray s 0 0 A) (F0 m 44 ls [.int (hvI (bf tp))]) := by
        intro H locs hP hD hS
        refine lv_istore_n (lv' := [(3, .int (hvI (bf tp))), (0, .ref h0), (1, .int (nI c1)), (2, .int 0)]) hx hb dX1_search_44 rfl hl (by decide) rfl (fun ls hl => ?_)
        refine lv_iconst (v := 0) hx hb dX1_search_45 (by decide) ?_
        refine lv_istore (lv' := [(4, .int 0), (3, .int (hvI (bf tp))), (0, .ref h0), (1, .int (nI c1)), (2, .int 0)]) hx hb dX1_search_46 hl (by decide) rfl (fun ls hl => ?_)
        refine lv_aload_n hx hb dX1_search_48 rfl (lv_at hl 2 rfl) ?_
        refine va_get (D := (dC, dI)) (ci := 2) (v := .int (nI tp)) (C := RX1) (T := TX1) (N := 13) hx hb hts (fun w h => List.mem_cons_of_mem _ (uG_X1 w h)) hown hK hP 0 rfl rfl 12 (by decide) (hts _ (List.mem_cons_of_mem _ kw_400)) (fun _ h9 => h9) rfl dX1_search_49 ?_
        refine lv_iconst (v := 1) hx hb dX1_search_52 (by decide) ?_
        refine lv_iadd hx hb dX1_search_53 ?_
        refine lv_topi (fun x_7 ex_7 => ?_)
        have ex_7 : x_7 = nI (tp + 1) := ex_7.trans (nI_add tp 1)
        subst ex_7
        refine lv_istore (lv' := [(5, .int (nI (tp + 1))), (4, .int 0), (3, .int (hvI (bf tp))), (0, .ref h0), (1, .int (nI c1)), (2, .int 0)]) hx hb dX1_search_54 hl (by decide) rfl (fun ls hl => ?_)
        have lp_56 : ∀ (n_ : Nat) (j : Nat), j ≤ c1 → c1 - j < n_ → ∀ (H : Heap) (locs : List Loc) (ls : Array Slot), va_P (dC, dI) vwCl [(h0, .inr (2, [.int sz1, k1, k2, k3, k4, k5, k6, k7, k8, k9, .ref hS1, .ref hB1, .int (nI tp)])), (hS1, .inl (cJ, N, .inr (.inl sf))), (hB1, .inl (cB, N, .inl bf))] H → va_D A [(h0, .inr (2, [.int sz1, k1, k2, k3, k4, k5, k6, k7, k8, k9, .ref hS1, .ref hB1, .int (nI tp)])), (hS1, .inl (cJ, N, .inr (.inl sf))), (hB1, .inl (cB, N, .inl bf))] → va_S A s.heap H locs → lv_has ls 6 [(5, .int (nI (tp + 1 + j))), (4, .int (srF sf bf tp j)), (3, .int (srU bf tp j)), (0, .ref h0), (1, .int (nI c1)), (2, .int 0)] → W p l e (headSpec (wsOf yX1_search cX1_search 6 none) ({ frames := 1, cells := 0, slots := 0, locals := 60 })).room s m ([.ref h0, .int (nI c1), .int 0] : List Value).toArray below meth c H locs 0 0 (MQ below (qc_t_search_notin dC dI cB cI cJ cZ h0 hS1 hB1 sz1 k1 k2 k3 k4 k5 k6 k7 k8 k9 N sf bf tp c1 A) ([.ref h0, .int (nI c1), .int 0] : List Value).toArray s 0 0 A) (F0 m 56 ls []) := by
          intro n_
          induction n_ with
          | zero => intro j hj hm; exact absurd hm (Nat.not_lt_zero _)
          | succ n_ ih_56 =>
            intro j hj hm H locs ls hP hD hS hl
            refine lv_iload hx hb dX1_search_56 (lv_at hl 0 rfl) ?_
            refine lv_aload_n hx hb dX1_search_58 rfl (lv_at hl 3 rfl) ?_
            refine va_get (D := (dC, dI)) (ci := 2) (v := .int (nI tp)) (C := RX1) (T := TX1) (N := 13) hx hb hts (fun w h => List.mem_cons_of_mem _ (uG_X1 w h)) hown hK hP 0 rfl rfl 12 (by decide) (hts _ (List.mem_cons_of_mem _ kw_400)) (fun _ h9 => h9) rfl dX1_search_59 ?_
            refine lv_iload_n hx hb dX1_search_62 rfl (lv_at hl 4 rfl) ?_
            refine lv_iadd hx hb dX1_search_63 ?_
            refine lv_topi (fun x_8 ex_8 => ?_)
            have ex_8 : x_8 = nI (tp + c1) := ex_8.trans (nI_add tp c1)
            subst ex_8
            refine lv_icmp_gt (tgt := 147) hx hb dX1_search_64 (by decide) (fun c_9 => ?_) (fun c_9 => ?_)
            · skip
              have c_9 : tp + c1 < tp + 1 + j := (nI_ltI (a := tp + c1) (b := tp + 1 + j) (by omega) (by omega)).mp c_9
              have ej : j = c1 := by omega
              refine lv_aload_n hx hb dX1_search_147 rfl (lv_at hl 3 rfl) ?_
              have mg_10 : ∀ (H : Heap) (locs : List Loc), va_P (dC, dI) vwCl [(h0, .inr (2, [.int sz1, k1, k2, k3, k4, k5, k6, k7, k8, k9, .ref hS1, .ref hB1, .int (nI tp)])), (hS1, .inl (cJ, N, .inr (.inl sf))), (hB1, .inl (cB, N, .inl bf))] H → va_D A [(h0, .inr (2, [.int sz1, k1, k2, k3, k4, k5, k6, k7, k8, k9, .ref hS1, .ref hB1, .int (nI tp)])), (hS1, .inl (cJ, N, .inr (.inl sf))), (hB1, .inl (cB, N, .inl bf))] → va_S A s.heap H locs → W p l e (headSpec (wsOf yX1_search cX1_search 6 none) ({ frames := 1, cells := 0, slots := 0, locals := 60 })).room s m ([.ref h0, .int (nI c1), .int 0] : List Value).toArray below meth c H locs 0 0 (MQ below (qc_t_search_notin dC dI cB cI cJ cZ h0 hS1 hB1 sz1 k1 k2 k3 k4 k5 k6 k7 k8 k9 N sf bf tp c1 A) ([.ref h0, .int (nI c1), .int 0] : List Value).toArray s 0 0 A) (F0 m 162 ls [.long (avI 0 1 (srF sf bf tp j)), .ref h0]) := by
                intro H locs hP hD hS
                have mg_11 : ∀ (H : Heap) (locs : List Loc), va_P (dC, dI) vwCl [(h0, .inr (2, [.int sz1, k1, k2, k3, k4, k5, k6, k7, k8, k9, .ref hS1, .ref hB1, .int (nI tp)])), (hS1, .inl (cJ, N, .inr (.inl sf))), (hB1, .inl (cB, N, .inl bf))] H → va_D A [(h0, .inr (2, [.int sz1, k1, k2, k3, k4, k5, k6, k7, k8, k9, .ref hS1, .ref hB1, .int (nI tp)])), (hS1, .inl (cJ, N, .inr (.inl sf))), (hB1, .inl (cB, N, .inl bf))] → va_S A s.heap H locs → W p l e (headSpec (wsOf yX1_search cX1_search 6 none) ({ frames := 1, cells := 0, slots := 0, locals := 60 })).room s m ([.ref h0, .int (nI c1), .int 0] : List Value).toArray below meth c H locs 0 0 (MQ below (qc_t_search_notin dC dI cB cI cJ cZ h0 hS1 hB1 sz1 k1 k2 k3 k4 k5 k6 k7 k8 k9 N sf bf tp c1 A) ([.ref h0, .int (nI c1), .int 0] : List Value).toArray s 0 0 A) (F0 m 176 ls [.int (seB (srF sf bf tp j) (srU bf tp j)), .long (avI 0 1 (srF sf bf tp j)), .ref h0]) := by
                  intro H locs hP hD hS
                  have hPc := hP.sub (ws' := [(h0, .inr (2, [.int sz1, k1, k2, k3, k4, k5, k6, k7, k8, k9, .ref hS1, .ref hB1, .int (nI tp)])), (hS1, .inl (cJ, N, .inr (.inl sf))), (hB1, .inl (cB, N, .inl bf))]) [0, 1, 2] rfl
                  have hDc := hD.sub (ws' := [(h0, .inr (2, [.int sz1, k1, k2, k3, k4, k5, k6, k7, k8, k9, .ref hS1, .ref hB1, .int (nI tp)])), (hS1, .inl (cJ, N, .inr (.inl sf))), (hB1, .inl (cB, N, .inl bf))]) [0, 1, 2] (by decide) rfl
                  have hKc := hK.sub (tys' := [(cB, .byte), (cI, .int), (cJ, .long), (cZ, .boolean)]) [0, 1, 2, 3] rfl
                  have hFc := va_free (wc := [(h0, .inr (2, [.int sz1, k1, k2, k3, k4, k5, k6, k7, k8, k9, .ref hS1, .ref hB1, .int (nI tp)])), (hS1, .inl (cJ, N, .inr (.inl sf))), (hB1, .inl (cB, N, .inl bf))]) hD hS hA [0, 1, 2] rfl
                  refine va_callv (va_runV (As := [.long (avI 0 1 (srF sf bf tp j)), .int (seB (srF sf bf tp j) (srU bf tp j))]) (rest := []) ⟨hx, hb, hml, hown, hts⟩ (t_X1_push l dC dI H.size cB cI cJ cZ h0 hS1 hB1 sz1 k1 k2 k3 k4 k5 k6 k7 k8 k9 N sf bf tp (avI 0 1 (srF sf bf tp j)) (seB (srF sf bf tp j) (srU bf tp j)) (by omega) (by omega)) (cwV 2 hts (gd_all (in_V kw_1415 kw_1417 kw_73 kw_189 kc_X1_push)) rfl rfl rfl (by decide +kernel) ⟨Nat.le_of_ble_eq_true rfl, Nat.le_of_ble_eq_true rfl⟩) ⟨fun a U g mk q => by obtain ⟨q0, q1, qP, qK, qD⟩ := q; exact ⟨q0, q1, qP, va_K.moved (u := U) (U := U.calling g mk a) (Vm.Alike.refl U.vm) qK, qD⟩, va_recv hKc hPc (ci := 2) (q0 := 0) rfl rfl, fun U hU hW => ⟨rfl, by rw [hU], by rw [hU]; exact hPc, va_K.moved hW.alike hKc, hDc.weaken (fun _ _ _ _ => trivial)⟩⟩ rfl rfl hl.1 rfl (lv_room (Nat.le_of_ble_eq_true rfl)) dX1_search_176 ⟨Nat.le_of_ble_eq_true rfl, Nat.le_of_ble_eq_true rfl⟩) hS (fun q _ h => hFc q h) hFc (fun u t_ H1 locs ht hvm hw hB hz1 hk1 hS => ?_)
                  obtain ⟨hP1, hK1, hD1⟩ := hB
                  rw [ht] at hP1
                  have hK1 := va_K.moved hvm.symm hK1
                  obtain ⟨hP, hD⟩ := va_join (wr := []) (w1 := [(h0, .inr (2, [.int sz1, k1, k2, k3, k4, k5, k6, k7, k8, k9, .ref hS1, .ref hB1, .int (nI (tp + 1))])), (hS1, .inl (cJ, N, .inr (.inl (vp_updL sf tp (pv (avI 0 1 (srF sf bf tp j)) (seB (srF sf bf tp j) (srU bf tp j))))))), (hB1, .inl (cB, N, .inl (upd bf tp (pb (seB (srF sf bf tp j) (srU bf tp j))))))]) hP hD [0, 1, 2] [] rfl rfl (by decide) (by decide) hk1 hFc hP1 hD1
                  have hK := (hK.sub (tys' := []) [] rfl).app hK1
                  generalize H1 = H at hP hS ⊢
                  have hP : va_P (dC, dI) vwCl [(h0, .inr (2, [.int sz1, k1, k2, k3, k4, k5, k6, k7, k8, k9, .ref hS1, .ref hB1, .int (nI (tp + 1))])), (hS1, .inl (cJ, N, .inr (.inl (vp_updL sf tp (pv (avI 0 1 (srF sf bf tp j)) (seB (srF sf bf tp j) (srU bf tp j))))))), (hB1, .inl (cB, N, .inl (upd bf tp (pb (seB (srF sf bf tp j) (srU bf tp j))))))] H := hP
                  have hD : va_D A [(h0, .inr (2, [.int sz1, k1, k2, k3, k4, k5, k6, k7, k8, k9, .ref hS1, .ref hB1, .int (nI (tp + 1))])), (hS1, .inl (cJ, N, .inr (.inl (vp_updL sf tp (pv (avI 0 1 (srF sf bf tp j)) (seB (srF sf bf tp j) (srU bf tp j))))))), (hB1, .inl (cB, N, .inl (upd bf tp (pb (seB (srF sf bf tp j) (srU bf tp j))))))] := hD
                  have hK : va_K (dC, dI) vwCl [(cB, .byte), (cI, .int), (cJ, .long), (cZ, .boolean)] s := hK
                  have hP9 := hP.sub (ws' := [(h0, .inr (2, [.int sz1, k1, k2, k3, k4, k5, k6, k7, k8, k9, .ref hS1, .ref hB1, .int (nI (tp + 1))])), (hS1, .inl (cJ, N, .inr (.inl (vp_updL sf tp (pv (avI 0 1 (srF sf bf tp j)) (seB (srF sf bf tp j) (srU bf tp j))))))), (hB1, .inl (cB, N, .inl (upd bf tp (pb (seB (srF sf bf tp j) (srU bf tp j))))))]) [0, 1, 2] rfl
                  have hD9 := hD.sub (ws' := [(h0, .inr (2, [.int sz1, k1, k2, k3, k4, k5, k6, k7, k8, k9, .ref hS1, .ref hB1, .int (nI (tp + 1))])), (hS1, .inl (cJ, N, .inr (.inl (vp_updL sf tp (pv (avI 0 1 (srF sf bf tp j)) (seB (srF sf bf tp j) (srU bf tp j))))))), (hB1, .inl (cB, N, .inl (upd bf tp (pb (seB (srF sf bf tp j) (srU bf tp j))))))]) [0, 1, 2] (by decide) rfl
                  have hK9 := hK.sub (tys' := [(cB, .byte), (cI, .int), (cJ, .long), (cZ, .boolean)]) [0, 1, 2, 3] rfl
                  exact W.vret hx hb hr (fun t_ ht hW => ⟨⟨j, rfl, ej, by rw [ht]; exact hP9, va_K.moved hW.alike hK9, hD9⟩, hS.F ht⟩) hS.2.2 dX1_search_179
                refine lv_iload hx hb dX1_search_162 (lv_at hl 1 rfl) ?_
                refine lv_if_ne (tgt := 175) hx hb dX1_search_164 (by decide) (fun c_13 => ?_) (fun c_13 => ?_)
                · skip
                  refine lv_iconst (v := 0) hx hb dX1_search_175 (by decide) ?_
                  exact W.eq (by unfold seB; rw [if_neg c_13]) (mg_11 _ _ hP hD hS)
                · skip
                  refine lv_iload_n hx hb dX1_search_167 rfl (lv_at hl 2 rfl) ?_
                  refine lv_if_eq (tgt := 175) hx hb dX1_search_168 (by decide) (fun c_14 => ?_) (fun c_14 => ?_)
                  · skip
                    refine lv_iconst (v := 0) hx hb dX1_search_175 (by decide) ?_
                    exact W.eq (by unfold seB; rw [if_pos c_13, if_pos c_14]) (mg_11 _ _ hP hD hS)
                  · skip
                    refine lv_iconst (v := 1) hx hb dX1_search_171 (by decide) ?_
                    refine lv_goto (tgt := 176) hx hb dX1_search_172 (by decide) ?_
                    exact W.eq (by unfold seB; rw [if_pos c_13, if_neg c_14]) (mg_11 _ _ hP hD hS)
              refine lv_iload hx hb dX1_search_148 (lv_at hl 1 rfl) ?_
              refine lv_if_eq (tgt := 158) hx hb dX1_search_150 (by decide) (fun c_15 => ?_) (fun c_15 => ?_)
              · skip
                refine lv_iconst (v := 1) hx hb dX1_search_158 (by decide) ?_
                refine lv_iload_n hx hb dX1_search_159 rfl (lv_at hl 5 rfl) ?_
                refine lv_isub hx hb dX1_search_160 ?_
                refine lv_topi (fun x_16 ex_16 => ?_)
                have ex_16 : x_16 = 1 := ex_16.trans (by decide)
                subst ex_16
                refine lv_i2l hx hb dX1_search_161 rfl ?_
                exact W.eq (by unfold avI; rw [if_pos c_15]) (mg_10 _ _ hP hD hS)
              · skip
                refine lv_iload_n hx hb dX1_search_153 rfl (lv_at hl 5 rfl) ?_
                refine lv_i2l hx hb dX1_search_154 rfl ?_
                refine lv_goto (tgt := 162) hx hb dX1_search_155 (by decide) ?_
                exact W.eq (by unfold avI; rw [if_neg c_15]) (mg_10 _ _ hP hD hS)
            · skip
              have c_9 : ¬ (tp + c1 < tp + 1 + j) := fun h => c_9 ((nI_ltI (a := tp + c1) (b := tp + 1 + j) (by omega) (by omega)).mpr h)
              have mg_17 : ∀ (H : Heap) (locs : List Loc), va_P (dC, dI) vwCl [(h0, .inr (2, [.int sz1, k1, k2, k3, k4, k5, k6, k7, k8, k9, .ref hS1, .ref hB1, .int (nI tp)])), (hS1, .inl (cJ, N, .inr (.inl sf))), (hB1, .inl (cB, N, .inl bf))] H → va_D A [(h0, .inr (2, [.int sz1, k1, k2, k3, k4, k5, k6, k7, k8, k9, .ref hS1, .ref hB1, .int (nI tp)])), (hS1, .inl (cJ, N, .inr (.inl sf))), (hB1, .inl (cB, N, .inl bf))] → va_S A s.heap H locs → W p l e (headSpec (wsOf yX1_search cX1_search 6 none) ({ frames := 1, cells := 0, slots := 0, locals := 60 })).room s m ([.ref h0, .int (nI c1), .int 0] : List Value).toArray below meth c H locs 0 0 (MQ below (qc_t_search_notin dC dI cB cI cJ cZ h0 hS1 hB1 sz1 k1 k2 k3 k4 k5 k6 k7 k8 k9 N sf bf tp c1 A) ([.ref h0, .int (nI c1), .int 0] : List Value).toArray s 0 0 A) (F0 m 86 ls [.int (unS (srU bf tp j) (bf (tp + 1 + j)))]) := by
                intro H locs hP hD hS
                refine lv_istore_n (lv' := [(3, .int (unS (srU bf tp j) (bf (tp + 1 + j)))), (5, .int (nI (tp + 1 + j))), (4, .int (srF sf bf tp j)), (0, .ref h0), (1, .int (nI c1)), (2, .int 0)]) hx hb dX1_search_86 rfl hl (by decide) rfl (fun ls hl => ?_)
                have mg_18 : ∀ (H : Heap) (locs : List Loc), va_P (dC, dI) vwCl [(h0, .inr (2, [.int sz1, k1, k2, k3, k4, k5, k6, k7, k8, k9, .ref hS1, .ref hB1, .int (nI tp)])), (hS1, .inl (cJ, N, .inr (.inl sf))), (hB1, .inl (cB, N, .inl bf))] H → va_D A [(h0, .inr (2, [.int sz1, k1, k2, k3, k4, k5, k6, k7, k8, k9, .ref hS1, .ref hB1, .int (nI tp)])), (hS1, .inl (cJ, N, .inr (.inl sf))), (hB1, .inl (cB, N, .inl bf))] → va_S A s.heap H locs → W p l e (headSpec (wsOf yX1_search cX1_search 6 none) ({ frames := 1, cells := 0, slots := 0, locals := 60 })).room s m ([.ref h0, .int (nI c1), .int 0] : List Value).toArray below meth c H locs 0 0 (MQ below (qc_t_search_notin dC dI cB cI cJ cZ h0 hS1 hB1 sz1 k1 k2 k3 k4 k5 k6 k7 k8 k9 N sf bf tp c1 A) ([.ref h0, .int (nI c1), .int 0] : List Value).toArray s 0 0 A) (F0 m 139 ls [.int (fnS (srF sf bf tp j) (bf tp) (bf (tp + 1 + j)) (sf tp) (sf (tp + 1 + j)))]) := by
                  intro H locs hP hD hS
                  refine lv_istore (lv' := [(4, .int (fnS (srF sf bf tp j) (bf tp) (bf (tp + 1 + j)) (sf tp) (sf (tp + 1 + j)))), (3, .int (unS (srU bf tp j) (bf (tp + 1 + j)))), (5, .int (nI (tp + 1 + j))), (0, .ref h0), (1, .int (nI c1)), (2, .int 0)]) hx hb dX1_search_139 hl (by decide) rfl (fun ls hl => ?_)
                  refine lv_iinc (v := nI (tp + 1 + j + 1)) (lv' := [(5, .int (nI (tp + 1 + j + 1))), (4, .int (fnS (srF sf bf tp j) (bf tp) (bf (tp + 1 + j)) (sf tp) (sf (tp + 1 + j)))), (3, .int (unS (srU bf tp j) (bf (tp + 1 + j)))), (0, .ref h0), (1, .int (nI c1)), (2, .int 0)]) hx hb dX1_search_141 hl (k := 2) rfl (nI_add (tp + 1 + j) 1) (by decide) rfl (fun ls hl => ?_)
                  refine lv_goto (tgt := 56) hx hb dX1_search_144 (by decide) ?_
                  exact ih_56 (j + 1) (by omega) (by omega) _ _ _ (hP.sub [0, 1, 2] rfl) (hD.sub [0, 1, 2] (by decide) rfl) hS (lv_sub hl [0, 1, 2, 3, 4, 5] rfl)
                refine lv_iload hx hb dX1_search_87 (lv_at hl 2 rfl) ?_
                refine lv_if_ne (tgt := 134) hx hb dX1_search_89 (by decide) (fun c_19 => ?_) (fun c_19 => ?_)
                · skip
                  refine lv_iconst (v := 1) hx hb dX1_search_134 (by decide) ?_
                  refine lv_goto (tgt := 139) hx hb dX1_search_135 (by decide) ?_
                  exact W.eq (by unfold fnS; rw [if_neg c_19]) (mg_18 _ _ hP hD hS)
                · skip
                  refine lv_aload_n hx hb dX1_search_92 rfl (lv_at hl 3 rfl) ?_
                  refine va_get (D := (dC, dI)) (ci := 2) (v := .ref hB1) (C := RX1) (T := TX1) (N := 13) hx hb hts (fun w h => List.mem_cons_of_mem _ (uG_X1 w h)) hown hK hP 0 rfl rfl 11 (by decide) (hts _ (List.mem_cons_of_mem _ kw_399)) (fun _ h9 => h9) rfl dX1_search_93 ?_
                  refine lv_aload_n hx hb dX1_search_96 rfl (lv_at hl 3 rfl) ?_
                  refine va_get (D := (dC, dI)) (ci := 2) (v := .int (nI tp)) (C := RX1) (T := TX1) (N := 13) hx hb hts (fun w h => List.mem_cons_of_mem _ (uG_X1 w h)) hown hK hP 0 rfl rfl 12 (by decide) (hts _ (List.mem_cons_of_mem _ kw_400)) (fun _ h9 => h9) rfl dX1_search_97 ?_
                  refine va_bald hx hb hK hP 2 0 rfl rfl (i := (nI tp)) (vp_in_nI (n := tp) (N := N) (by omega) (by omega)) dX1_search_100 ?_
                  refine lv_topi (fun x_20 ex_20 => ?_)
                  have ex_20 : x_20 = bf tp := ex_20.trans (congrArg bf (nI_clamp (n := tp) (by omega)))
                  subst ex_20
                  refine lv_if_ne (tgt := 138) hx hb dX1_search_101 (by decide) (fun c_21 => ?_) (fun c_21 => ?_)
                  · skip
                    refine lv_iconst (v := 0) hx hb dX1_search_138 (by decide) ?_
                    exact W.eq (by unfold fnS; rw [if_pos c_19, if_neg c_21]) (mg_18 _ _ hP hD hS)
                  · skip
                    refine lv_aload_n hx hb dX1_search_104 rfl (lv_at hl 3 rfl) ?_
                    refine va_get (D := (dC, dI)) (ci := 2) (v := .ref hB1) (C := RX1) (T := TX1) (N := 13) hx hb hts (fun w h => List.mem_cons_of_mem _ (uG_X1 w h)) hown hK hP 0 rfl rfl 11 (by decide) (hts _ (List.mem_cons_of_mem _ kw_399)) (fun _ h9 => h9) rfl dX1_search_105 ?_
                    refine lv_iload hx hb dX1_search_108 (lv_at hl 1 rfl) ?_
                    refine va_bald hx hb hK hP 2 0 rfl rfl (i := (nI (tp + 1 + j))) (vp_in_nI (n := tp + 1 + j) (N := N) (by omega) (by omega)) dX1_search_110 ?_
                    refine lv_topi (fun x_22 ex_22 => ?_)
                    have ex_22 : x_22 = bf (tp + 1 + j) := ex_22.trans (congrArg bf (nI_clamp (n := tp + 1 + j) (by omega)))
                    subst ex_22
                    refine lv_if_ne (tgt := 138) hx hb dX1_search_111 (by decide) (fun c_23 => ?_) (fun c_23 => ?_)
                    · skip
                      refine lv_iconst (v := 0) hx hb dX1_search_138 (by decide) ?_
                      exact W.eq (by unfold fnS; rw [if_pos c_19, if_pos c_21, if_neg c_23]) (mg_18 _ _ hP hD hS)
                    · skip
                      refine lv_aload_n hx hb dX1_search_114 rfl (lv_at hl 3 rfl) ?_
                      refine va_get (D := (dC, dI)) (ci := 2) (v := .ref hS1) (C := RX1) (T := TX1) (N := 13) hx hb hts (fun w h => List.mem_cons_of_mem _ (uG_X1 w h)) hown hK hP 0 rfl rfl 10 (by decide) (hts _ (List.mem_cons_of_mem _ kw_398)) (fun _ h9 => h9) rfl dX1_search_115 ?_
                      refine lv_iload hx hb dX1_search_118 (lv_at hl 1 rfl) ?_
                      refine va_lald hx hb hK hP 1 2 rfl rfl (i := (nI (tp + 1 + j))) (vp_in_nI (n := tp + 1 + j) (N := N) (by omega) (by omega)) dX1_search_120 ?_
                      refine lv_topl (fun x_24 ex_24 => ?_)
                      have ex_24 : x_24 = sf (tp + 1 + j) := ex_24.trans (congrArg sf (nI_clamp (n := tp + 1 + j) (by omega)))
                      subst ex_24
                      refine lv_aload_n hx hb dX1_search_121 rfl (lv_at hl 3 rfl) ?_
                      refine va_get (D := (dC, dI)) (ci := 2) (v := .ref hS1) (C := RX1) (T := TX1) (N := 13) hx hb hts (fun w h => List.mem_cons_of_mem _ (uG_X1 w h)) hown hK hP 0 rfl rfl 10 (by decide) (hts _ (List.mem_cons_of_mem _ kw_398)) (fun _ h9 => h9) rfl dX1_search_122 ?_
                      refine lv_aload_n hx hb dX1_search_125 rfl (lv_at hl 3 rfl) ?_
                      refine va_get (D := (dC, dI)) (ci := 2) (v := .int (nI tp)) (C := RX1) (T := TX1) (N := 13) hx hb hts (fun w h => List.mem_cons_of_mem _ (uG_X1 w h)) hown hK hP 0 rfl rfl 12 (by decide) (hts _ (List.mem_cons_of_mem _ kw_400)) (fun _ h9 => h9) rfl dX1_search_126 ?_
                      refine va_lald hx hb hK hP 1 2 rfl rfl (i := (nI tp)) (vp_in_nI (n := tp) (N := N) (by omega) (by omega)) dX1_search_129 ?_
                      refine lv_topl (fun x_25 ex_25 => ?_)
                      have ex_25 : x_25 = sf tp := ex_25.trans (congrArg sf (nI_clamp (n := tp) (by omega)))
                      subst ex_25
                      refine W.lcmp hx hb dX1_search_130 ?_
                      refine lv_if_ne (tgt := 138) hx hb dX1_search_131 (by decide) (fun c_26 => ?_) (fun c_26 => ?_)
                      · skip
                        have c_26 : ¬ ((sf (tp + 1 + j)) = (sf tp)) := fun h => c_26 ((lg_cmp_eq (sf (tp + 1 + j)) (sf tp)).mpr h)
                        refine lv_iconst (v := 0) hx hb dX1_search_138 (by decide) ?_
                        exact W.eq (by unfold fnS; rw [if_pos c_19, if_pos c_21, if_pos c_23, if_neg c_26]) (mg_18 _ _ hP hD hS)
                      · skip
                        have c_26 : (sf (tp + 1 + j)) = (sf tp) := (lg_cmp_eq (sf (tp + 1 + j)) (sf tp)).mp c_26
                        refine lv_iconst (v := 1) hx hb dX1_search_134 (by decide) ?_
                        refine lv_goto (tgt := 139) hx hb dX1_search_135 (by decide) ?_
                        exact W.eq (by unfold fnS; rw [if_pos c_19, if_pos c_21, if_pos c_23, if_pos c_26]) (mg_18 _ _ hP hD hS)
              refine lv_iload_n hx hb dX1_search_67 rfl (lv_at hl 2 rfl) ?_
              refine lv_if_ne (tgt := 81) hx hb dX1_search_68 (by decide) (fun c_27 => ?_) (fun c_27 => ?_)
              · skip
                refine lv_iconst (v := 1) hx hb dX1_search_81 (by decide) ?_
                refine lv_goto (tgt := 86) hx hb dX1_search_82 (by decide) ?_
                exact W.eq (by unfold unS; rw [if_neg c_27]) (mg_17 _ _ hP hD hS)
              · skip
                refine lv_aload_n hx hb dX1_search_71 rfl (lv_at hl 3 rfl) ?_
                refine va_get (D := (dC, dI)) (ci := 2) (v := .ref hB1) (C := RX1) (T := TX1) (N := 13) hx hb hts (fun w h => List.mem_cons_of_mem _ (uG_X1 w h)) hown hK hP 0 rfl rfl 11 (by decide) (hts _ (List.mem_cons_of_mem _ kw_399)) (fun _ h9 => h9) rfl dX1_search_72 ?_
                refine lv_iload hx hb dX1_search_75 (lv_at hl 0 rfl) ?_
                refine va_bald hx hb hK hP 2 0 rfl rfl (i := (nI (tp + 1 + j))) (vp_in_nI (n := tp + 1 + j) (N := N) (by omega) (by omega)) dX1_search_77 ?_
                refine lv_topi (fun x_28 ex_28 => ?_)
                have ex_28 : x_28 = bf (tp + 1 + j) := ex_28.trans (congrArg bf (nI_clamp (n := tp + 1 + j) (by omega)))
                subst ex_28
                refine lv_if_eq (tgt := 85) hx hb dX1_search_78 (by decide) (fun c_29 => ?_) (fun c_29 => ?_)
                · skip
                  refine lv_iconst (v := 0) hx hb dX1_search_85 (by decide) ?_
                  exact W.eq (by unfold unS; rw [if_pos c_27, if_pos c_29]) (mg_17 _ _ hP hD hS)
                · skip
                  refine lv_iconst (v := 1) hx hb dX1_search_81 (by decide) ?_
                  refine lv_goto (tgt := 86) hx hb dX1_search_82 (by decide) ?_
                  exact W.eq (by unfold unS; rw [if_pos c_27, if_neg c_29]) (mg_17 _ _ hP hD hS)
        exact lp_56 _ 0 (Nat.zero_le _) (Nat.lt_succ_self _) _ _ _ (hP.sub [0, 1, 2] rfl) (hD.sub [0, 1, 2] (by decide) rfl) hS (lv_sub hl [0, 1, 2, 3, 4, 5] rfl)
      refine lv_aload_n hx hb dX1_search_27 rfl (lv_at hl 0 rfl) ?_
      refine va_get (D := (dC, dI)) (ci := 2) (v := .ref hB1) (C := RX1) (T := TX1) (N := 13) hx hb hts (fun w h => List.mem_cons_of_mem _ (uG_X1 w h)) hown hK hP 0 rfl rfl 11 (by decide) (hts _ (List.mem_cons_of_mem _ kw_399)) (fun _ h9 => h9) rfl dX1_search_28 ?_
      refine lv_aload_n hx hb dX1_search_31 rfl (lv_at hl 0 rfl) ?_
      refine va_get (D := (dC, dI)) (ci := 2) (v := .int (nI tp)) (C := RX1) (T := TX1) (N := 13) hx hb hts (fun w h => List.mem_cons_of_mem _ (uG_X1 w h)) hown hK hP 0 rfl rfl 12 (by decide) (hts _ (List.mem_cons_of_mem _ kw_400)) (fun _ h9 => h9) rfl dX1_search_32 ?_
      refine va_bald hx hb hK hP 2 0 rfl rfl (i := (nI tp)) (vp_in_nI (n := tp) (N := N) (by omega) (by omega)) dX1_search_35 ?_
      refine lv_topi (fun x_30 ex_30 => ?_)
      have ex_30 : x_30 = bf tp := ex_30.trans (congrArg bf (nI_clamp (n := tp) (by omega)))
      subst ex_30
      refine lv_if_eq (tgt := 43) hx hb dX1_search_36 (by decide) (fun c_31 => ?_) (fun c_31 => ?_)
      · skip
        refine lv_iconst (v := 0) hx hb dX1_search_43 (by decide) ?_
        exact W.eq (by unfold hvI; rw [if_pos c_31]) (mg_6 _ _ hP hD hS)
      · skip
        refine lv_iconst (v := 1) hx hb dX1_search_39 (by decide) ?_
        refine lv_goto (tgt := 44) hx hb dX1_search_40 (by decide) ?_
        exact W.eq (by unfold hvI; rw [if_neg c_31]) (mg_6 _ _ hP hD hS)
    · skip
      have c_3 : ¬ (c1 + 1 ≤ tp + (c1 + 1)) := fun h => c_3 ((nI_leI (a := c1 + 1) (b := tp + (c1 + 1)) (by omega) (by omega)).mpr h)
      exact absurd (show c1 + 1 ≤ tp + (c1 + 1) by omega) c_3
