theorem dX11_three_0 : decode cX11_three 0 = .ok (.iload_n 1, 1) := by decide +kernel
theorem dX11_three_1 : decode cX11_three 1 = .ok (.tableswitch 111 0 5 #[39, 51, 63, 75, 87, 99], 39) := by decide +kernel
theorem dX11_three_40 : decode cX11_three 40 = .ok (.aload_n 0, 1) := by decide +kernel
theorem dX11_three_41 : decode cX11_three 41 = .ok (.getfield 55, 3) := by decide +kernel
theorem dX11_three_44 : decode cX11_three 44 = .ok (.bipush 28, 2) := by decide +kernel
theorem dX11_three_46 : decode cX11_three 46 = .ok (.iload_n 2, 1) := by decide +kernel
theorem dX11_three_47 : decode cX11_three 47 = .ok (.iload_n 3, 1) := by decide +kernel
theorem dX11_three_48 : decode cX11_three 48 = .ok (.invokevirtual 175, 3) := by decide +kernel
theorem dX11_three_51 : decode cX11_three 51 = .ok (.ireturn, 1) := by decide +kernel
theorem dX11_three_52 : decode cX11_three 52 = .ok (.aload_n 0, 1) := by decide +kernel
theorem dX11_three_53 : decode cX11_three 53 = .ok (.getfield 55, 3) := by decide +kernel
theorem dX11_three_56 : decode cX11_three 56 = .ok (.bipush 29, 2) := by decide +kernel
theorem dX11_three_58 : decode cX11_three 58 = .ok (.iload_n 2, 1) := by decide +kernel
theorem dX11_three_59 : decode cX11_three 59 = .ok (.iload_n 3, 1) := by decide +kernel
theorem dX11_three_60 : decode cX11_three 60 = .ok (.invokevirtual 175, 3) := by decide +kernel
theorem dX11_three_63 : decode cX11_three 63 = .ok (.ireturn, 1) := by decide +kernel
theorem dX11_three_64 : decode cX11_three 64 = .ok (.aload_n 0, 1) := by decide +kernel
theorem dX11_three_65 : decode cX11_three 65 = .ok (.getfield 55, 3) := by decide +kernel
theorem dX11_three_68 : decode cX11_three 68 = .ok (.bipush 25, 2) := by decide +kernel
theorem dX11_three_70 : decode cX11_three 70 = .ok (.iload_n 2, 1) := by decide +kernel
theorem dX11_three_71 : decode cX11_three 71 = .ok (.iload_n 3, 1) := by decide +kernel
theorem dX11_three_72 : decode cX11_three 72 = .ok (.invokevirtual 175, 3) := by decide +kernel
theorem dX11_three_75 : decode cX11_three 75 = .ok (.ireturn, 1) := by decide +kernel
theorem dX11_three_76 : decode cX11_three 76 = .ok (.aload_n 0, 1) := by decide +kernel
theorem dX11_three_77 : decode cX11_three 77 = .ok (.getfield 55, 3) := by decide +kernel
theorem dX11_three_80 : decode cX11_three 80 = .ok (.bipush 50, 2) := by decide +kernel
theorem dX11_three_82 : decode cX11_three 82 = .ok (.iload_n 2, 1) := by decide +kernel
theorem dX11_three_83 : decode cX11_three 83 = .ok (.iload_n 3, 1) := by decide +kernel
theorem dX11_three_84 : decode cX11_three 84 = .ok (.invokevirtual 175, 3) := by decide +kernel
theorem dX11_three_87 : decode cX11_three 87 = .ok (.ireturn, 1) := by decide +kernel
theorem dX11_three_88 : decode cX11_three 88 = .ok (.aload_n 0, 1) := by decide +kernel
theorem dX11_three_89 : decode cX11_three 89 = .ok (.getfield 55, 3) := by decide +kernel
theorem dX11_three_92 : decode cX11_three 92 = .ok (.bipush 51, 2) := by decide +kernel
theorem dX11_three_94 : decode cX11_three 94 = .ok (.iload_n 2, 1) := by decide +kernel
theorem dX11_three_95 : decode cX11_three 95 = .ok (.iload_n 3, 1) := by decide +kernel
theorem dX11_three_96 : decode cX11_three 96 = .ok (.invokevirtual 175, 3) := by decide +kernel
theorem dX11_three_99 : decode cX11_three 99 = .ok (.ireturn, 1) := by decide +kernel
theorem dX11_three_100 : decode cX11_three 100 = .ok (.aload_n 0, 1) := by decide +kernel
theorem dX11_three_101 : decode cX11_three 101 = .ok (.getfield 55, 3) := by decide +kernel
theorem dX11_three_104 : decode cX11_three 104 = .ok (.bipush 45, 2) := by decide +kernel
theorem dX11_three_106 : decode cX11_three 106 = .ok (.iload_n 2, 1) := by decide +kernel
theorem dX11_three_107 : decode cX11_three 107 = .ok (.iload_n 3, 1) := by decide +kernel
theorem dX11_three_108 : decode cX11_three 108 = .ok (.invokevirtual 175, 3) := by decide +kernel
theorem dX11_three_111 : decode cX11_three 111 = .ok (.ireturn, 1) := by decide +kernel
theorem dX11_three_112 : decode cX11_three 112 = .ok (.bipush (-2), 2) := by decide +kernel
theorem dX11_three_114 : decode cX11_three 114 = .ok (.ireturn, 1) := by decide +kernel
abbrev cs_t_three_0 (cB cI cJ cZ : ClassId) (h0 hQ hS1 hB1 : Nat) (sz1 : Int32) (k1 k2 k3 k4 k5 k6 k7 k8 k9 : Value) (sf : Nat → Int64) (bf : Nat → Int32) (tq : Int32) (v0 v2 v3 v5 v6 v7 v8 v9 v10 v12 v13 : Value) (ts lf ar ct : Int32) (a b : Int32) : va_W := [(h0, .inr (12, [v0, .int ts, v2, v3, .int lf, v5, v6, v7, v8, v9, v10, .int ar, v12, v13, .int ct, .ref hQ])), (hQ, .inr (2, [.int sz1, k1, k2, k3, k4, k5, k6, k7, k8, k9, .ref hS1, .ref hB1, .int tq])), (hS1, .inl (cJ, 2, .inr (.inl sf))), (hB1, .inl (cB, 2, .inl bf))]
abbrev pc_t_three_0 (dC : Nat → ClassId) (dI : Nat → Nat → Nat) (sz : Nat) (cB cI cJ cZ : ClassId) (h0 hQ hS1 hB1 : Nat) (sz1 : Int32) (k1 k2 k3 k4 k5 k6 k7 k8 k9 : Value) (sf : Nat → Int64) (bf : Nat → Int32) (tq : Int32) (v0 v2 v3 v5 v6 v7 v8 v9 v10 v12 v13 : Value) (ts lf ar ct : Int32) (a b : Int32) : Array Value → State → Prop := va_Pc [.ref h0, .int 0, .int a, .int b] (fun U => U.heap.size = sz ∧ va_P (dC, dI) vwCl [(h0, .inr (12, [v0, .int ts, v2, v3, .int lf, v5, v6, v7, v8, v9, v10, .int ar, v12, v13, .int ct, .ref hQ])), (hQ, .inr (2, [.int sz1, k1, k2, k3, k4, k5, k6, k7, k8, k9, .ref hS1, .ref hB1, .int tq])), (hS1, .inl (cJ, 2, .inr (.inl sf))), (hB1, .inl (cB, 2, .inl bf))] U.heap ∧ va_K (dC, dI) vwCl [(cB, .byte), (cI, .int), (cJ, .long), (cZ, .boolean)] U ∧ va_D (fun _ => True) [(h0, .inr (12, [v0, .int ts, v2, v3, .int lf, v5, v6, v7, v8, v9, v10, .int ar, v12, v13, .int ct, .ref hQ])), (hQ, .inr (2, [.int sz1, k1, k2, k3, k4, k5, k6, k7, k8, k9, .ref hS1, .ref hB1, .int tq])), (hS1, .inl (cJ, 2, .inr (.inl sf))), (hB1, .inl (cB, 2, .inl bf))])
abbrev qc_t_three_0 (dC : Nat → ClassId) (dI : Nat → Nat → Nat) (cB cI cJ cZ : ClassId) (h0 hQ hS1 hB1 : Nat) (sz1 : Int32) (k1 k2 k3 k4 k5 k6 k7 k8 k9 : Value) (sf : Nat → Int64) (bf : Nat → Int32) (tq : Int32) (v0 v2 v3 v5 v6 v7 v8 v9 v10 v12 v13 : Value) (ts lf ar ct : Int32) (a b : Int32) (A : Nat → Prop) : Array Value → State → Outcome → State → Prop := va_Qi (fun (r : Int32) (u : (Nat → Int64) × (Nat → Int32)) => match u with | (s2, b2) => r = thr 0 a b) (fun (u : (Nat → Int64) × (Nat → Int32)) t_ => match u with | (s2, b2) => va_P (dC, dI) vwCl [(h0, .inr (12, [v0, .int ts, v2, v3, .int lf, v5, v6, v7, v8, v9, v10, .int ar, v12, v13, .int ct, .ref hQ])), (hQ, .inr (2, [.int sz1, k1, k2, k3, k4, k5, k6, k7, k8, k9, .ref hS1, .ref hB1, .int (nI (0 + 1))])), (hS1, .inl (cJ, 2, .inr (.inl s2))), (hB1, .inl (cB, 2, .inl b2))] t_.heap ∧ va_K (dC, dI) vwCl [(cB, .byte), (cI, .int), (cJ, .long), (cZ, .boolean)] t_ ∧ va_D A [(h0, .inr (12, [v0, .int ts, v2, v3, .int lf, v5, v6, v7, v8, v9, v10, .int ar, v12, v13, .int ct, .ref hQ])), (hQ, .inr (2, [.int sz1, k1, k2, k3, k4, k5, k6, k7, k8, k9, .ref hS1, .ref hB1, .int (nI (0 + 1))])), (hS1, .inl (cJ, 2, .inr (.inl s2))), (hB1, .inl (cB, 2, .inl b2))]) A
set_option maxHeartbeats 4000000 in
set_option maxRecDepth 100000 in
theorem t_three_0 (l : Launch) (dC : Nat → ClassId) (dI : Nat → Nat → Nat) (sz : Nat) (cB cI cJ cZ : ClassId) (h0 hQ hS1 hB1 : Nat) (sz1 : Int32) (k1 k2 k3 k4 k5 k6 k7 k8 k9 : Value) (sf : Nat → Int64) (bf : Nat → Int32) (tq : Int32) (v0 v2 v3 v5 v6 v7 v8 v9 v10 v12 v13 : Value) (ts lf ar ct : Int32) (a b : Int32)  : Met l yX11_three (wsOf yX11_three cX11_three 4 (some .int)) ({ frames := 3, cells := 0, slots := 0, locals := 180 }) (pc_t_three_0 dC dI sz cB cI cJ cZ h0 hQ hS1 hB1 sz1 k1 k2 k3 k4 k5 k6 k7 k8 k9 sf bf tq v0 v2 v3 v5 v6 v7 v8 v9 v10 v12 v13 ts lf ar ct a b) (qc_t_three_0 dC dI cB cI cJ cZ h0 hQ hS1 hB1 sz1 k1 k2 k3 k4 k5 k6 k7 k8 k9 sf bf tq v0 v2 v3 v5 v6 v7 v8 v9 v10 v12 v13 ts lf ar ct a b (va_A (cs_t_three_0 cB cI cJ cZ h0 hQ hS1 hB1 sz1 k1 k2 k3 k4 k5 k6 k7 k8 k9 sf bf tq v0 v2 v3 v5 v6 v7 v8 v9 v10 v12 v13 ts lf ar ct a b) sz)) 0 0 (va_A (cs_t_three_0 cB cI cJ cZ h0 hQ hS1 hB1 sz1 k1 k2 k3 k4 k5 k6 k7 k8 k9 sf bf tq v0 v2 v3 v5 v6 v7 v8 v9 v10 v12 v13 ts lf ar ct a b) sz) := by
  refine Met.ofW (cc := cX11_three) (maxL := 4) (ret := (some .int)) (by decide) rfl ?_
  intro p e s m args below meth c s₁ B hml hv
  obtain ⟨rfl, hsz, hP, hK, hD0⟩ := hv
  have hx := B.exec
  have hb := B.bytes
  have hr := B.returns
  have hts := atoms_spec (ws := (wsOf yX11_three cX11_three 4 (some .int))) B.pre
  have hown : s.vm.findClass RX11 = some m.cls := findClass_of_methodNamed B.named
  have hlocks := B.notSynchronized
  subst hsz
  have hD := hD0.self (sz := s.heap.size)
  generalize hAe : va_A (cs_t_three_0 cB cI cJ cZ h0 hQ hS1 hB1 sz1 k1 k2 k3 k4 k5 k6 k7 k8 k9 sf bf tq v0 v2 v3 v5 v6 v7 v8 v9 v10 v12 v13 ts lf ar ct a b) s.heap.size = A at hD ⊢
  have hA : ∀ q : Nat, s.heap.size ≤ q → A q := fun q h => by rw [← hAe]; exact Or.inr h
  have hS : va_S A s.heap s.heap [] := va_S.rf
  have hP : va_P (dC, dI) vwCl [(h0, .inr (12, [v0, .int ts, v2, v3, .int lf, v5, v6, v7, v8, v9, v10, .int ar, v12, v13, .int ct, .ref hQ])), (hQ, .inr (2, [.int sz1, k1, k2, k3, k4, k5, k6, k7, k8, k9, .ref hS1, .ref hB1, .int tq])), (hS1, .inl (cJ, 2, .inr (.inl sf))), (hB1, .inl (cB, 2, .inl bf))] s.heap := hP
  have hl := lv_entry ([.ref h0, .int 0, .int a, .int b]) (n := 4) (Nat.le_of_ble_eq_true rfl)
  rw [lg_entry_eq]
  generalize (lg_sl ([.ref h0, .int 0, .int a, .int b]) ++ List.replicate (4 - (lg_sl ([.ref h0, .int 0, .int a, .int b])).length) Slot.unset).toArray = ls at hl ⊢
  have hl : lv_has ls 4 [(0, .ref h0), (1, .int 0), (2, .int a), (3, .int b)] := hl
  refine lv_iload_n hx hb dX11_three_0 rfl (lv_at hl 1 rfl) ?_
  refine lv_tableIn (tgt := 40) (off := 39) hx hb dX11_three_1 (by decide) (by decide) (by decide) (by decide) ?_
  refine lv_aload_n hx hb dX11_three_40 rfl (lv_at hl 0 rfl) ?_
  refine va_get (D := (dC, dI)) (ci := 12) (v := .ref hQ) (C := RX11) (T := TX11) (N := 16) hx hb hts (fun w h => List.mem_cons_of_mem _ (uG_X11 w h)) hown hK hP 0 rfl rfl 15 (by decide) (hts _ (List.mem_cons_of_mem _ kw_443)) (fun _ h9 => h9) rfl dX11_three_41 ?_
  refine lv_bipush (v := 28) hx hb dX11_three_44 (by decide) ?_
  refine lv_iload_n hx hb dX11_three_46 rfl (lv_at hl 2 rfl) ?_
  refine lv_iload_n hx hb dX11_three_47 rfl (lv_at hl 3 rfl) ?_
  have hPc := hP.sub (ws' := [(hQ, .inr (2, [.int sz1, k1, k2, k3, k4, k5, k6, k7, k8, k9, .ref hS1, .ref hB1, .int tq])), (hS1, .inl (cJ, 2, .inr (.inl sf))), (hB1, .inl (cB, 2, .inl bf))]) [1, 2, 3] rfl
  have hDc := hD.sub (ws' := [(hQ, .inr (2, [.int sz1, k1, k2, k3, k4, k5, k6, k7, k8, k9, .ref hS1, .ref hB1, .int tq])), (hS1, .inl (cJ, 2, .inr (.inl sf))), (hB1, .inl (cB, 2, .inl bf))]) [1, 2, 3] (by decide) rfl
  have hKc := hK.sub (tys' := [(cB, .byte), (cI, .int), (cJ, .long), (cZ, .boolean)]) [0, 1, 2, 3] rfl
  have hFc := va_free (wc := [(hQ, .inr (2, [.int sz1, k1, k2, k3, k4, k5, k6, k7, k8, k9, .ref hS1, .ref hB1, .int tq])), (hS1, .inl (cJ, 2, .inr (.inl sf))), (hB1, .inl (cB, 2, .inl bf))]) hD hS hA [1, 2, 3] rfl
  refine va_calli (va_runV (As := [.int 28, .int a, .int b]) (rest := []) ⟨hx, hb, hml, hown, hts⟩ (t_weigh_and l dC dI s.heap.size cB cI cJ cZ hQ hS1 hB1 sz1 k1 k2 k3 k4 k5 k6 k7 k8 k9 sf bf tq a b) (cwV 3 hts (gd_all (in_V kw_1664 kw_1665 kw_1666 kw_189 kc_X1_weigh)) rfl rfl rfl (by decide +kernel) ⟨Nat.le_of_ble_eq_true rfl, Nat.le_of_ble_eq_true rfl⟩) ⟨fun a U g mk q => by obtain ⟨q0, q1, qP, qK, qD⟩ := q; exact ⟨q0, q1, qP, va_K.moved (u := U) (U := U.calling g mk a) (Vm.Alike.refl U.vm) qK, qD⟩, va_recv hKc hPc (ci := 2) (q0 := 0) rfl rfl, fun U hU hW => ⟨rfl, by rw [hU], by rw [hU]; exact hPc, va_K.moved hW.alike hKc, hDc.weaken (fun _ _ _ _ => trivial)⟩⟩ rfl rfl hl.1 rfl (lv_room (Nat.le_of_ble_eq_true rfl)) dX11_three_48 ⟨Nat.le_of_ble_eq_true rfl, Nat.le_of_ble_eq_true rfl⟩) hS (fun q _ h => hFc q h) hFc (fun r_1 u t_ H1 locs ht hvm hw hB hz1 hk1 hS => ?_)
  obtain ⟨s2, b2⟩ := u
  obtain ⟨hP1, hK1, hD1⟩ := hB
  rw [ht] at hP1
  have hK1 := va_K.moved hvm.symm hK1
  obtain ⟨hP, hD⟩ := va_join (wr := [(h0, .inr (12, [v0, .int ts, v2, v3, .int lf, v5, v6, v7, v8, v9, v10, .int ar, v12, v13, .int ct, .ref hQ]))]) (w1 := [(hQ, .inr (2, [.int sz1, k1, k2, k3, k4, k5, k6, k7, k8, k9, .ref hS1, .ref hB1, .int (nI (0 + 1))])), (hS1, .inl (cJ, 2, .inr (.inl s2))), (hB1, .inl (cB, 2, .inl b2))]) hP hD [1, 2, 3] [0] rfl rfl (by decide) (by decide) hk1 hFc hP1 hD1
  have hK := (hK.sub (tys' := []) [] rfl).app hK1
  generalize H1 = H at hP hS ⊢
  have hP : va_P (dC, dI) vwCl [(h0, .inr (12, [v0, .int ts, v2, v3, .int lf, v5, v6, v7, v8, v9, v10, .int ar, v12, v13, .int ct, .ref hQ])), (hQ, .inr (2, [.int sz1, k1, k2, k3, k4, k5, k6, k7, k8, k9, .ref hS1, .ref hB1, .int (nI (0 + 1))])), (hS1, .inl (cJ, 2, .inr (.inl s2))), (hB1, .inl (cB, 2, .inl b2))] H := hP
  have hD : va_D A [(h0, .inr (12, [v0, .int ts, v2, v3, .int lf, v5, v6, v7, v8, v9, v10, .int ar, v12, v13, .int ct, .ref hQ])), (hQ, .inr (2, [.int sz1, k1, k2, k3, k4, k5, k6, k7, k8, k9, .ref hS1, .ref hB1, .int (nI (0 + 1))])), (hS1, .inl (cJ, 2, .inr (.inl s2))), (hB1, .inl (cB, 2, .inl b2))] := hD
  have hK : va_K (dC, dI) vwCl [(cB, .byte), (cI, .int), (cJ, .long), (cZ, .boolean)] s := hK
  have er_1 : r_1 = thr 0 a b := hw
  rw [er_1]
  have hP9 := hP.sub (ws' := [(h0, .inr (12, [v0, .int ts, v2, v3, .int lf, v5, v6, v7, v8, v9, v10, .int ar, v12, v13, .int ct, .ref hQ])), (hQ, .inr (2, [.int sz1, k1, k2, k3, k4, k5, k6, k7, k8, k9, .ref hS1, .ref hB1, .int (nI (0 + 1))])), (hS1, .inl (cJ, 2, .inr (.inl s2))), (hB1, .inl (cB, 2, .inl b2))]) [0, 1, 2, 3] rfl
  have hD9 := hD.sub (ws' := [(h0, .inr (12, [v0, .int ts, v2, v3, .int lf, v5, v6, v7, v8, v9, v10, .int ar, v12, v13, .int ct, .ref hQ])), (hQ, .inr (2, [.int sz1, k1, k2, k3, k4, k5, k6, k7, k8, k9, .ref hS1, .ref hB1, .int (nI (0 + 1))])), (hS1, .inl (cJ, 2, .inr (.inl s2))), (hB1, .inl (cB, 2, .inl b2))]) [0, 1, 2, 3] (by decide) rfl
  have hK9 := hK.sub (tys' := [(cB, .byte), (cI, .int), (cJ, .long), (cZ, .boolean)]) [0, 1, 2, 3] rfl
  exact W.iret (v := (thr 0 a b)) hx hb hr (fun t_ ht hW => ⟨⟨(thr 0 a b), (s2, b2), rfl, rfl, by rw [ht]; exact hP9, va_K.moved hW.alike hK9, hD9⟩, hS.F ht⟩) hS.2.2 dX11_three_51
abbrev cs_t_three_1 (cB cI cJ cZ : ClassId) (h0 hQ hS1 hB1 : Nat) (sz1 : Int32) (k1 k2 k3 k4 k5 k6 k7 k8 k9 : Value) (sf : Nat → Int64) (bf : Nat → Int32) (tq : Int32) (v0 v2 v3 v5 v6 v7 v8 v9 v10 v12 v13 : Value) (ts lf ar ct : Int32) (a b : Int32) : va_W := [(h0, .inr (12, [v0, .int ts, v2, v3, .int lf, v5, v6, v7, v8, v9, v10, .int ar, v12, v13, .int ct, .ref hQ])), (hQ, .inr (2, [.int sz1, k1, k2, k3, k4, k5, k6, k7, k8, k9, .ref hS1, .ref hB1, .int tq])), (hS1, .inl (cJ, 2, .inr (.inl sf))), (hB1, .inl (cB, 2, .inl bf))]
abbrev pc_t_three_1 (dC : Nat → ClassId) (dI : Nat → Nat → Nat) (sz : Nat) (cB cI cJ cZ : ClassId) (h0 hQ hS1 hB1 : Nat) (sz1 : Int32) (k1 k2 k3 k4 k5 k6 k7 k8 k9 : Value) (sf : Nat → Int64) (bf : Nat → Int32) (tq : Int32) (v0 v2 v3 v5 v6 v7 v8 v9 v10 v12 v13 : Value) (ts lf ar ct : Int32) (a b : Int32) : Array Value → State → Prop := va_Pc [.ref h0, .int 1, .int a, .int b] (fun U => U.heap.size = sz ∧ va_P (dC, dI) vwCl [(h0, .inr (12, [v0, .int ts, v2, v3, .int lf, v5, v6, v7, v8, v9, v10, .int ar, v12, v13, .int ct, .ref hQ])), (hQ, .inr (2, [.int sz1, k1, k2, k3, k4, k5, k6, k7, k8, k9, .ref hS1, .ref hB1, .int tq])), (hS1, .inl (cJ, 2, .inr (.inl sf))), (hB1, .inl (cB, 2, .inl bf))] U.heap ∧ va_K (dC, dI) vwCl [(cB, .byte), (cI, .int), (cJ, .long), (cZ, .boolean)] U ∧ va_D (fun _ => True) [(h0, .inr (12, [v0, .int ts, v2, v3, .int lf, v5, v6, v7, v8, v9, v10, .int ar, v12, v13, .int ct, .ref hQ])), (hQ, .inr (2, [.int sz1, k1, k2, k3, k4, k5, k6, k7, k8, k9, .ref hS1, .ref hB1, .int tq])), (hS1, .inl (cJ, 2, .inr (.inl sf))), (hB1, .inl (cB, 2, .inl bf))])
abbrev qc_t_three_1 (dC : Nat → ClassId) (dI : Nat → Nat → Nat) (cB cI cJ cZ : ClassId) (h0 hQ hS1 hB1 : Nat) (sz1 : Int32) (k1 k2 k3 k4 k5 k6 k7 k8 k9 : Value) (sf : Nat → Int64) (bf : Nat → Int32) (tq : Int32) (v0 v2 v3 v5 v6 v7 v8 v9 v10 v12 v13 : Value) (ts lf ar ct : Int32) (a b : Int32) (A : Nat → Prop) : Array Value → State → Outcome → State → Prop := va_Qi (fun (r : Int32) (u : (Nat → Int64) × (Nat → Int32)) => match u with | (s2, b2) => r = thr 1 a b) (fun (u : (Nat → Int64) × (Nat → Int32)) t_ => match u with | (s2, b2) => va_P (dC, dI) vwCl [(h0, .inr (12, [v0, .int ts, v2, v3, .int lf, v5, v6, v7, v8, v9, v10, .int ar, v12, v13, .int ct, .ref hQ])), (hQ, .inr (2, [.int sz1, k1, k2, k3, k4, k5, k6, k7, k8, k9, .ref hS1, .ref hB1, .int (nI (0 + 1))])), (hS1, .inl (cJ, 2, .inr (.inl s2))), (hB1, .inl (cB, 2, .inl b2))] t_.heap ∧ va_K (dC, dI) vwCl [(cB, .byte), (cI, .int), (cJ, .long), (cZ, .boolean)] t_ ∧ va_D A [(h0, .inr (12, [v0, .int ts, v2, v3, .int lf, v5, v6, v7, v8, v9, v10, .int ar, v12, v13, .int ct, .ref hQ])), (hQ, .inr (2, [.int sz1, k1, k2, k3, k4, k5, k6, k7, k8, k9, .ref hS1, .ref hB1, .int (nI (0 + 1))])), (hS1, .inl (cJ, 2, .inr (.inl s2))), (hB1, .inl (cB, 2, .inl b2))]) A
set_option maxHeartbeats 4000000 in
set_option maxRecDepth 100000 in
theorem t_three_1 (l : Launch) (dC : Nat → ClassId) (dI : Nat → Nat → Nat) (sz : Nat) (cB cI cJ cZ : ClassId) (h0 hQ hS1 hB1 : Nat) (sz1 : Int32) (k1 k2 k3 k4 k5 k6 k7 k8 k9 : Value) (sf : Nat → Int64) (bf : Nat → Int32) (tq : Int32) (v0 v2 v3 v5 v6 v7 v8 v9 v10 v12 v13 : Value) (ts lf ar ct : Int32) (a b : Int32)  : Met l yX11_three (wsOf yX11_three cX11_three 4 (some .int)) ({ frames := 3, cells := 0, slots := 0, locals := 180 }) (pc_t_three_1 dC dI sz cB cI cJ cZ h0 hQ hS1 hB1 sz1 k1 k2 k3 k4 k5 k6 k7 k8 k9 sf bf tq v0 v2 v3 v5 v6 v7 v8 v9 v10 v12 v13 ts lf ar ct a b) (qc_t_three_1 dC dI cB cI cJ cZ h0 hQ hS1 hB1 sz1 k1 k2 k3 k4 k5 k6 k7 k8 k9 sf bf tq v0 v2 v3 v5 v6 v7 v8 v9 v10 v12 v13 ts lf ar ct a b (va_A (cs_t_three_1 cB cI cJ cZ h0 hQ hS1 hB1 sz1 k1 k2 k3 k4 k5 k6 k7 k8 k9 sf bf tq v0 v2 v3 v5 v6 v7 v8 v9 v10 v12 v13 ts lf ar ct a b) sz)) 0 0 (va_A (cs_t_three_1 cB cI cJ cZ h0 hQ hS1 hB1 sz1 k1 k2 k3 k4 k5 k6 k7 k8 k9 sf bf tq v0 v2 v3 v5 v6 v7 v8 v9 v10 v12 v13 ts lf ar ct a b) sz) := by
  refine Met.ofW (cc := cX11_three) (maxL := 4) (ret := (some .int)) (by decide) rfl ?_
  intro p e s m args below meth c s₁ B hml hv
  obtain ⟨rfl, hsz, hP, hK, hD0⟩ := hv
  have hx := B.exec
  have hb := B.bytes
  have hr := B.returns
  have hts := atoms_spec (ws := (wsOf yX11_three cX11_three 4 (some .int))) B.pre
  have hown : s.vm.findClass RX11 = some m.cls := findClass_of_methodNamed B.named
  have hlocks := B.notSynchronized
  subst hsz
  have hD := hD0.self (sz := s.heap.size)
  generalize hAe : va_A (cs_t_three_1 cB cI cJ cZ h0 hQ hS1 hB1 sz1 k1 k2 k3 k4 k5 k6 k7 k8 k9 sf bf tq v0 v2 v3 v5 v6 v7 v8 v9 v10 v12 v13 ts lf ar ct a b) s.heap.size = A at hD ⊢
  have hA : ∀ q : Nat, s.heap.size ≤ q → A q := fun q h => by rw [← hAe]; exact Or.inr h
  have hS : va_S A s.heap s.heap [] := va_S.rf
  have hP : va_P (dC, dI) vwCl [(h0, .inr (12, [v0, .int ts, v2, v3, .int lf, v5, v6, v7, v8, v9, v10, .int ar, v12, v13, .int ct, .ref hQ])), (hQ, .inr (2, [.int sz1, k1, k2, k3, k4, k5, k6, k7, k8, k9, .ref hS1, .ref hB1, .int tq])), (hS1, .inl (cJ, 2, .inr (.inl sf))), (hB1, .inl (cB, 2, .inl bf))] s.heap := hP
  have hl := lv_entry ([.ref h0, .int 1, .int a, .int b]) (n := 4) (Nat.le_of_ble_eq_true rfl)
  rw [lg_entry_eq]
  generalize (lg_sl ([.ref h0, .int 1, .int a, .int b]) ++ List.replicate (4 - (lg_sl ([.ref h0, .int 1, .int a, .int b])).length) Slot.unset).toArray = ls at hl ⊢
  have hl : lv_has ls 4 [(0, .ref h0), (1, .int 1), (2, .int a), (3, .int b)] := hl
  refine lv_iload_n hx hb dX11_three_0 rfl (lv_at hl 1 rfl) ?_
  refine lv_tableIn (tgt := 52) (off := 51) hx hb dX11_three_1 (by decide) (by decide) (by decide) (by decide) ?_
  refine lv_aload_n hx hb dX11_three_52 rfl (lv_at hl 0 rfl) ?_
  refine va_get (D := (dC, dI)) (ci := 12) (v := .ref hQ) (C := RX11) (T := TX11) (N := 16) hx hb hts (fun w h => List.mem_cons_of_mem _ (uG_X11 w h)) hown hK hP 0 rfl rfl 15 (by decide) (hts _ (List.mem_cons_of_mem _ kw_443)) (fun _ h9 => h9) rfl dX11_three_53 ?_
  refine lv_bipush (v := 29) hx hb dX11_three_56 (by decide) ?_
  refine lv_iload_n hx hb dX11_three_58 rfl (lv_at hl 2 rfl) ?_
  refine lv_iload_n hx hb dX11_three_59 rfl (lv_at hl 3 rfl) ?_
  have hPc := hP.sub (ws' := [(hQ, .inr (2, [.int sz1, k1, k2, k3, k4, k5, k6, k7, k8, k9, .ref hS1, .ref hB1, .int tq])), (hS1, .inl (cJ, 2, .inr (.inl sf))), (hB1, .inl (cB, 2, .inl bf))]) [1, 2, 3] rfl
  have hDc := hD.sub (ws' := [(hQ, .inr (2, [.int sz1, k1, k2, k3, k4, k5, k6, k7, k8, k9, .ref hS1, .ref hB1, .int tq])), (hS1, .inl (cJ, 2, .inr (.inl sf))), (hB1, .inl (cB, 2, .inl bf))]) [1, 2, 3] (by decide) rfl
  have hKc := hK.sub (tys' := [(cB, .byte), (cI, .int), (cJ, .long), (cZ, .boolean)]) [0, 1, 2, 3] rfl
  have hFc := va_free (wc := [(hQ, .inr (2, [.int sz1, k1, k2, k3, k4, k5, k6, k7, k8, k9, .ref hS1, .ref hB1, .int tq])), (hS1, .inl (cJ, 2, .inr (.inl sf))), (hB1, .inl (cB, 2, .inl bf))]) hD hS hA [1, 2, 3] rfl
  refine va_calli (va_runV (As := [.int 29, .int a, .int b]) (rest := []) ⟨hx, hb, hml, hown, hts⟩ (t_weigh_or l dC dI s.heap.size cB cI cJ cZ hQ hS1 hB1 sz1 k1 k2 k3 k4 k5 k6 k7 k8 k9 sf bf tq a b) (cwV 3 hts (gd_all (in_V kw_1664 kw_1665 kw_1666 kw_189 kc_X1_weigh)) rfl rfl rfl (by decide +kernel) ⟨Nat.le_of_ble_eq_true rfl, Nat.le_of_ble_eq_true rfl⟩) ⟨fun a U g mk q => by obtain ⟨q0, q1, qP, qK, qD⟩ := q; exact ⟨q0, q1, qP, va_K.moved (u := U) (U := U.calling g mk a) (Vm.Alike.refl U.vm) qK, qD⟩, va_recv hKc hPc (ci := 2) (q0 := 0) rfl rfl, fun U hU hW => ⟨rfl, by rw [hU], by rw [hU]; exact hPc, va_K.moved hW.alike hKc, hDc.weaken (fun _ _ _ _ => trivial)⟩⟩ rfl rfl hl.1 rfl (lv_room (Nat.le_of_ble_eq_true rfl)) dX11_three_60 ⟨Nat.le_of_ble_eq_true rfl, Nat.le_of_ble_eq_true rfl⟩) hS (fun q _ h => hFc q h) hFc (fun r_1 u t_ H1 locs ht hvm hw hB hz1 hk1 hS => ?_)
  obtain ⟨s2, b2⟩ := u
  obtain ⟨hP1, hK1, hD1⟩ := hB
  rw [ht] at hP1
  have hK1 := va_K.moved hvm.symm hK1
  obtain ⟨hP, hD⟩ := va_join (wr := [(h0, .inr (12, [v0, .int ts, v2, v3, .int lf, v5, v6, v7, v8, v9, v10, .int ar, v12, v13, .int ct, .ref hQ]))]) (w1 := [(hQ, .inr (2, [.int sz1, k1, k2, k3, k4, k5, k6, k7, k8, k9, .ref hS1, .ref hB1, .int (nI (0 + 1))])), (hS1, .inl (cJ, 2, .inr (.inl s2))), (hB1, .inl (cB, 2, .inl b2))]) hP hD [1, 2, 3] [0] rfl rfl (by decide) (by decide) hk1 hFc hP1 hD1
  have hK := (hK.sub (tys' := []) [] rfl).app hK1
  generalize H1 = H at hP hS ⊢
  have hP : va_P (dC, dI) vwCl [(h0, .inr (12, [v0, .int ts, v2, v3, .int lf, v5, v6, v7, v8, v9, v10, .int ar, v12, v13, .int ct, .ref hQ])), (hQ, .inr (2, [.int sz1, k1, k2, k3, k4, k5, k6, k7, k8, k9, .ref hS1, .ref hB1, .int (nI (0 + 1))])), (hS1, .inl (cJ, 2, .inr (.inl s2))), (hB1, .inl (cB, 2, .inl b2))] H := hP
  have hD : va_D A [(h0, .inr (12, [v0, .int ts, v2, v3, .int lf, v5, v6, v7, v8, v9, v10, .int ar, v12, v13, .int ct, .ref hQ])), (hQ, .inr (2, [.int sz1, k1, k2, k3, k4, k5, k6, k7, k8, k9, .ref hS1, .ref hB1, .int (nI (0 + 1))])), (hS1, .inl (cJ, 2, .inr (.inl s2))), (hB1, .inl (cB, 2, .inl b2))] := hD
  have hK : va_K (dC, dI) vwCl [(cB, .byte), (cI, .int), (cJ, .long), (cZ, .boolean)] s := hK
  have er_1 : r_1 = thr 1 a b := hw
  rw [er_1]
  have hP9 := hP.sub (ws' := [(h0, .inr (12, [v0, .int ts, v2, v3, .int lf, v5, v6, v7, v8, v9, v10, .int ar, v12, v13, .int ct, .ref hQ])), (hQ, .inr (2, [.int sz1, k1, k2, k3, k4, k5, k6, k7, k8, k9, .ref hS1, .ref hB1, .int (nI (0 + 1))])), (hS1, .inl (cJ, 2, .inr (.inl s2))), (hB1, .inl (cB, 2, .inl b2))]) [0, 1, 2, 3] rfl
  have hD9 := hD.sub (ws' := [(h0, .inr (12, [v0, .int ts, v2, v3, .int lf, v5, v6, v7, v8, v9, v10, .int ar, v12, v13, .int ct, .ref hQ])), (hQ, .inr (2, [.int sz1, k1, k2, k3, k4, k5, k6, k7, k8, k9, .ref hS1, .ref hB1, .int (nI (0 + 1))])), (hS1, .inl (cJ, 2, .inr (.inl s2))), (hB1, .inl (cB, 2, .inl b2))]) [0, 1, 2, 3] (by decide) rfl
  have hK9 := hK.sub (tys' := [(cB, .byte), (cI, .int), (cJ, .long), (cZ, .boolean)]) [0, 1, 2, 3] rfl
  exact W.iret (v := (thr 1 a b)) hx hb hr (fun t_ ht hW => ⟨⟨(thr 1 a b), (s2, b2), rfl, rfl, by rw [ht]; exact hP9, va_K.moved hW.alike hK9, hD9⟩, hS.F ht⟩) hS.2.2 dX11_three_63
abbrev cs_t_three_2 (cB cI cJ cZ : ClassId) (h0 hQ hS1 hB1 : Nat) (sz1 : Int32) (k1 k2 k3 k4 k5 k6 k7 k8 k9 : Value) (sf : Nat → Int64) (bf : Nat → Int32) (tq : Int32) (v0 v2 v3 v5 v6 v7 v8 v9 v10 v12 v13 : Value) (ts lf ar ct : Int32) (a b : Int32) : va_W := [(h0, .inr (12, [v0, .int ts, v2, v3, .int lf, v5, v6, v7, v8, v9, v10, .int ar, v12, v13, .int ct, .ref hQ])), (hQ, .inr (2, [.int sz1, k1, k2, k3, k4, k5, k6, k7, k8, k9, .ref hS1, .ref hB1, .int tq])), (hS1, .inl (cJ, 2, .inr (.inl sf))), (hB1, .inl (cB, 2, .inl bf))]
abbrev pc_t_three_2 (dC : Nat → ClassId) (dI : Nat → Nat → Nat) (sz : Nat) (cB cI cJ cZ : ClassId) (h0 hQ hS1 hB1 : Nat) (sz1 : Int32) (k1 k2 k3 k4 k5 k6 k7 k8 k9 : Value) (sf : Nat → Int64) (bf : Nat → Int32) (tq : Int32) (v0 v2 v3 v5 v6 v7 v8 v9 v10 v12 v13 : Value) (ts lf ar ct : Int32) (a b : Int32) : Array Value → State → Prop := va_Pc [.ref h0, .int 2, .int a, .int b] (fun U => U.heap.size = sz ∧ va_P (dC, dI) vwCl [(h0, .inr (12, [v0, .int ts, v2, v3, .int lf, v5, v6, v7, v8, v9, v10, .int ar, v12, v13, .int ct, .ref hQ])), (hQ, .inr (2, [.int sz1, k1, k2, k3, k4, k5, k6, k7, k8, k9, .ref hS1, .ref hB1, .int tq])), (hS1, .inl (cJ, 2, .inr (.inl sf))), (hB1, .inl (cB, 2, .inl bf))] U.heap ∧ va_K (dC, dI) vwCl [(cB, .byte), (cI, .int), (cJ, .long), (cZ, .boolean)] U ∧ va_D (fun _ => True) [(h0, .inr (12, [v0, .int ts, v2, v3, .int lf, v5, v6, v7, v8, v9, v10, .int ar, v12, v13, .int ct, .ref hQ])), (hQ, .inr (2, [.int sz1, k1, k2, k3, k4, k5, k6, k7, k8, k9, .ref hS1, .ref hB1, .int tq])), (hS1, .inl (cJ, 2, .inr (.inl sf))), (hB1, .inl (cB, 2, .inl bf))])
abbrev qc_t_three_2 (dC : Nat → ClassId) (dI : Nat → Nat → Nat) (cB cI cJ cZ : ClassId) (h0 hQ hS1 hB1 : Nat) (sz1 : Int32) (k1 k2 k3 k4 k5 k6 k7 k8 k9 : Value) (sf : Nat → Int64) (bf : Nat → Int32) (tq : Int32) (v0 v2 v3 v5 v6 v7 v8 v9 v10 v12 v13 : Value) (ts lf ar ct : Int32) (a b : Int32) (A : Nat → Prop) : Array Value → State → Outcome → State → Prop := va_Qi (fun (r : Int32) (u : (Nat → Int64) × (Nat → Int32)) => match u with | (s2, b2) => r = thr 2 a b) (fun (u : (Nat → Int64) × (Nat → Int32)) t_ => match u with | (s2, b2) => va_P (dC, dI) vwCl [(h0, .inr (12, [v0, .int ts, v2, v3, .int lf, v5, v6, v7, v8, v9, v10, .int ar, v12, v13, .int ct, .ref hQ])), (hQ, .inr (2, [.int sz1, k1, k2, k3, k4, k5, k6, k7, k8, k9, .ref hS1, .ref hB1, .int (nI (0 + 1))])), (hS1, .inl (cJ, 2, .inr (.inl s2))), (hB1, .inl (cB, 2, .inl b2))] t_.heap ∧ va_K (dC, dI) vwCl [(cB, .byte), (cI, .int), (cJ, .long), (cZ, .boolean)] t_ ∧ va_D A [(h0, .inr (12, [v0, .int ts, v2, v3, .int lf, v5, v6, v7, v8, v9, v10, .int ar, v12, v13, .int ct, .ref hQ])), (hQ, .inr (2, [.int sz1, k1, k2, k3, k4, k5, k6, k7, k8, k9, .ref hS1, .ref hB1, .int (nI (0 + 1))])), (hS1, .inl (cJ, 2, .inr (.inl s2))), (hB1, .inl (cB, 2, .inl b2))]) A
set_option maxHeartbeats 4000000 in
set_option maxRecDepth 100000 in
theorem t_three_2 (l : Launch) (dC : Nat → ClassId) (dI : Nat → Nat → Nat) (sz : Nat) (cB cI cJ cZ : ClassId) (h0 hQ hS1 hB1 : Nat) (sz1 : Int32) (k1 k2 k3 k4 k5 k6 k7 k8 k9 : Value) (sf : Nat → Int64) (bf : Nat → Int32) (tq : Int32) (v0 v2 v3 v5 v6 v7 v8 v9 v10 v12 v13 : Value) (ts lf ar ct : Int32) (a b : Int32)  : Met l yX11_three (wsOf yX11_three cX11_three 4 (some .int)) ({ frames := 3, cells := 0, slots := 0, locals := 180 }) (pc_t_three_2 dC dI sz cB cI cJ cZ h0 hQ hS1 hB1 sz1 k1 k2 k3 k4 k5 k6 k7 k8 k9 sf bf tq v0 v2 v3 v5 v6 v7 v8 v9 v10 v12 v13 ts lf ar ct a b) (qc_t_three_2 dC dI cB cI cJ cZ h0 hQ hS1 hB1 sz1 k1 k2 k3 k4 k5 k6 k7 k8 k9 sf bf tq v0 v2 v3 v5 v6 v7 v8 v9 v10 v12 v13 ts lf ar ct a b (va_A (cs_t_three_2 cB cI cJ cZ h0 hQ hS1 hB1 sz1 k1 k2 k3 k4 k5 k6 k7 k8 k9 sf bf tq v0 v2 v3 v5 v6 v7 v8 v9 v10 v12 v13 ts lf ar ct a b) sz)) 0 0 (va_A (cs_t_three_2 cB cI cJ cZ h0 hQ hS1 hB1 sz1 k1 k2 k3 k4 k5 k6 k7 k8 k9 sf bf tq v0 v2 v3 v5 v6 v7 v8 v9 v10 v12 v13 ts lf ar ct a b) sz) := by
  refine Met.ofW (cc := cX11_three) (maxL := 4) (ret := (some .int)) (by decide) rfl ?_
  intro p e s m args below meth c s₁ B hml hv
  obtain ⟨rfl, hsz, hP, hK, hD0⟩ := hv
  have hx := B.exec
  have hb := B.bytes
  have hr := B.returns
  have hts := atoms_spec (ws := (wsOf yX11_three cX11_three 4 (some .int))) B.pre
  have hown : s.vm.findClass RX11 = some m.cls := findClass_of_methodNamed B.named
  have hlocks := B.notSynchronized
  subst hsz
  have hD := hD0.self (sz := s.heap.size)
  generalize hAe : va_A (cs_t_three_2 cB cI cJ cZ h0 hQ hS1 hB1 sz1 k1 k2 k3 k4 k5 k6 k7 k8 k9 sf bf tq v0 v2 v3 v5 v6 v7 v8 v9 v10 v12 v13 ts lf ar ct a b) s.heap.size = A at hD ⊢
  have hA : ∀ q : Nat, s.heap.size ≤ q → A q := fun q h => by rw [← hAe]; exact Or.inr h
  have hS : va_S A s.heap s.heap [] := va_S.rf
  have hP : va_P (dC, dI) vwCl [(h0, .inr (12, [v0, .int ts, v2, v3, .int lf, v5, v6, v7, v8, v9, v10, .int ar, v12, v13, .int ct, .ref hQ])), (hQ, .inr (2, [.int sz1, k1, k2, k3, k4, k5, k6, k7, k8, k9, .ref hS1, .ref hB1, .int tq])), (hS1, .inl (cJ, 2, .inr (.inl sf))), (hB1, .inl (cB, 2, .inl bf))] s.heap := hP
  have hl := lv_entry ([.ref h0, .int 2, .int a, .int b]) (n := 4) (Nat.le_of_ble_eq_true rfl)
  rw [lg_entry_eq]
  generalize (lg_sl ([.ref h0, .int 2, .int a, .int b]) ++ List.replicate (4 - (lg_sl ([.ref h0, .int 2, .int a, .int b])).length) Slot.unset).toArray = ls at hl ⊢
  have hl : lv_has ls 4 [(0, .ref h0), (1, .int 2), (2, .int a), (3, .int b)] := hl
  refine lv_iload_n hx hb dX11_three_0 rfl (lv_at hl 1 rfl) ?_
  refine lv_tableIn (tgt := 64) (off := 63) hx hb dX11_three_1 (by decide) (by decide) (by decide) (by decide) ?_
  refine lv_aload_n hx hb dX11_three_64 rfl (lv_at hl 0 rfl) ?_
  refine va_get (D := (dC, dI)) (ci := 12) (v := .ref hQ) (C := RX11) (T := TX11) (N := 16) hx hb hts (fun w h => List.mem_cons_of_mem _ (uG_X11 w h)) hown hK hP 0 rfl rfl 15 (by decide) (hts _ (List.mem_cons_of_mem _ kw_443)) (fun _ h9 => h9) rfl dX11_three_65 ?_
  refine lv_bipush (v := 25) hx hb dX11_three_68 (by decide) ?_
  refine lv_iload_n hx hb dX11_three_70 rfl (lv_at hl 2 rfl) ?_
  refine lv_iload_n hx hb dX11_three_71 rfl (lv_at hl 3 rfl) ?_
  have hPc := hP.sub (ws' := [(hQ, .inr (2, [.int sz1, k1, k2, k3, k4, k5, k6, k7, k8, k9, .ref hS1, .ref hB1, .int tq])), (hS1, .inl (cJ, 2, .inr (.inl sf))), (hB1, .inl (cB, 2, .inl bf))]) [1, 2, 3] rfl
  have hDc := hD.sub (ws' := [(hQ, .inr (2, [.int sz1, k1, k2, k3, k4, k5, k6, k7, k8, k9, .ref hS1, .ref hB1, .int tq])), (hS1, .inl (cJ, 2, .inr (.inl sf))), (hB1, .inl (cB, 2, .inl bf))]) [1, 2, 3] (by decide) rfl
  have hKc := hK.sub (tys' := [(cB, .byte), (cI, .int), (cJ, .long), (cZ, .boolean)]) [0, 1, 2, 3] rfl
  have hFc := va_free (wc := [(hQ, .inr (2, [.int sz1, k1, k2, k3, k4, k5, k6, k7, k8, k9, .ref hS1, .ref hB1, .int tq])), (hS1, .inl (cJ, 2, .inr (.inl sf))), (hB1, .inl (cB, 2, .inl bf))]) hD hS hA [1, 2, 3] rfl
  refine va_calli (va_runV (As := [.int 25, .int a, .int b]) (rest := []) ⟨hx, hb, hml, hown, hts⟩ (t_weigh_not l dC dI s.heap.size cB cI cJ cZ hQ hS1 hB1 sz1 k1 k2 k3 k4 k5 k6 k7 k8 k9 sf bf tq a b) (cwV 3 hts (gd_all (in_V kw_1664 kw_1665 kw_1666 kw_189 kc_X1_weigh)) rfl rfl rfl (by decide +kernel) ⟨Nat.le_of_ble_eq_true rfl, Nat.le_of_ble_eq_true rfl⟩) ⟨fun a U g mk q => by obtain ⟨q0, q1, qP, qK, qD⟩ := q; exact ⟨q0, q1, qP, va_K.moved (u := U) (U := U.calling g mk a) (Vm.Alike.refl U.vm) qK, qD⟩, va_recv hKc hPc (ci := 2) (q0 := 0) rfl rfl, fun U hU hW => ⟨rfl, by rw [hU], by rw [hU]; exact hPc, va_K.moved hW.alike hKc, hDc.weaken (fun _ _ _ _ => trivial)⟩⟩ rfl rfl hl.1 rfl (lv_room (Nat.le_of_ble_eq_true rfl)) dX11_three_72 ⟨Nat.le_of_ble_eq_true rfl, Nat.le_of_ble_eq_true rfl⟩) hS (fun q _ h => hFc q h) hFc (fun r_1 u t_ H1 locs ht hvm hw hB hz1 hk1 hS => ?_)
  obtain ⟨s2, b2⟩ := u
  obtain ⟨hP1, hK1, hD1⟩ := hB
  rw [ht] at hP1
  have hK1 := va_K.moved hvm.symm hK1
  obtain ⟨hP, hD⟩ := va_join (wr := [(h0, .inr (12, [v0, .int ts, v2, v3, .int lf, v5, v6, v7, v8, v9, v10, .int ar, v12, v13, .int ct, .ref hQ]))]) (w1 := [(hQ, .inr (2, [.int sz1, k1, k2, k3, k4, k5, k6, k7, k8, k9, .ref hS1, .ref hB1, .int (nI (0 + 1))])), (hS1, .inl (cJ, 2, .inr (.inl s2))), (hB1, .inl (cB, 2, .inl b2))]) hP hD [1, 2, 3] [0] rfl rfl (by decide) (by decide) hk1 hFc hP1 hD1
  have hK := (hK.sub (tys' := []) [] rfl).app hK1
  generalize H1 = H at hP hS ⊢
  have hP : va_P (dC, dI) vwCl [(h0, .inr (12, [v0, .int ts, v2, v3, .int lf, v5, v6, v7, v8, v9, v10, .int ar, v12, v13, .int ct, .ref hQ])), (hQ, .inr (2, [.int sz1, k1, k2, k3, k4, k5, k6, k7, k8, k9, .ref hS1, .ref hB1, .int (nI (0 + 1))])), (hS1, .inl (cJ, 2, .inr (.inl s2))), (hB1, .inl (cB, 2, .inl b2))] H := hP
  have hD : va_D A [(h0, .inr (12, [v0, .int ts, v2, v3, .int lf, v5, v6, v7, v8, v9, v10, .int ar, v12, v13, .int ct, .ref hQ])), (hQ, .inr (2, [.int sz1, k1, k2, k3, k4, k5, k6, k7, k8, k9, .ref hS1, .ref hB1, .int (nI (0 + 1))])), (hS1, .inl (cJ, 2, .inr (.inl s2))), (hB1, .inl (cB, 2, .inl b2))] := hD
  have hK : va_K (dC, dI) vwCl [(cB, .byte), (cI, .int), (cJ, .long), (cZ, .boolean)] s := hK
  have er_1 : r_1 = thr 2 a b := hw
  rw [er_1]
  have hP9 := hP.sub (ws' := [(h0, .inr (12, [v0, .int ts, v2, v3, .int lf, v5, v6, v7, v8, v9, v10, .int ar, v12, v13, .int ct, .ref hQ])), (hQ, .inr (2, [.int sz1, k1, k2, k3, k4, k5, k6, k7, k8, k9, .ref hS1, .ref hB1, .int (nI (0 + 1))])), (hS1, .inl (cJ, 2, .inr (.inl s2))), (hB1, .inl (cB, 2, .inl b2))]) [0, 1, 2, 3] rfl
  have hD9 := hD.sub (ws' := [(h0, .inr (12, [v0, .int ts, v2, v3, .int lf, v5, v6, v7, v8, v9, v10, .int ar, v12, v13, .int ct, .ref hQ])), (hQ, .inr (2, [.int sz1, k1, k2, k3, k4, k5, k6, k7, k8, k9, .ref hS1, .ref hB1, .int (nI (0 + 1))])), (hS1, .inl (cJ, 2, .inr (.inl s2))), (hB1, .inl (cB, 2, .inl b2))]) [0, 1, 2, 3] (by decide) rfl
  have hK9 := hK.sub (tys' := [(cB, .byte), (cI, .int), (cJ, .long), (cZ, .boolean)]) [0, 1, 2, 3] rfl
  exact W.iret (v := (thr 2 a b)) hx hb hr (fun t_ ht hW => ⟨⟨(thr 2 a b), (s2, b2), rfl, rfl, by rw [ht]; exact hP9, va_K.moved hW.alike hK9, hD9⟩, hS.F ht⟩) hS.2.2 dX11_three_75
abbrev cs_t_three_3 (cB cI cJ cZ : ClassId) (h0 hQ hS1 hB1 : Nat) (sz1 : Int32) (k1 k2 k3 k4 k5 k6 k7 k8 k9 : Value) (sf : Nat → Int64) (bf : Nat → Int32) (tq : Int32) (v0 v2 v3 v5 v6 v7 v8 v9 v10 v12 v13 : Value) (ts lf ar ct : Int32) (a b : Int32) : va_W := [(h0, .inr (12, [v0, .int ts, v2, v3, .int lf, v5, v6, v7, v8, v9, v10, .int ar, v12, v13, .int ct, .ref hQ])), (hQ, .inr (2, [.int sz1, k1, k2, k3, k4, k5, k6, k7, k8, k9, .ref hS1, .ref hB1, .int tq])), (hS1, .inl (cJ, 2, .inr (.inl sf))), (hB1, .inl (cB, 2, .inl bf))]
abbrev pc_t_three_3 (dC : Nat → ClassId) (dI : Nat → Nat → Nat) (sz : Nat) (cB cI cJ cZ : ClassId) (h0 hQ hS1 hB1 : Nat) (sz1 : Int32) (k1 k2 k3 k4 k5 k6 k7 k8 k9 : Value) (sf : Nat → Int64) (bf : Nat → Int32) (tq : Int32) (v0 v2 v3 v5 v6 v7 v8 v9 v10 v12 v13 : Value) (ts lf ar ct : Int32) (a b : Int32) : Array Value → State → Prop := va_Pc [.ref h0, .int 3, .int a, .int b] (fun U => U.heap.size = sz ∧ va_P (dC, dI) vwCl [(h0, .inr (12, [v0, .int ts, v2, v3, .int lf, v5, v6, v7, v8, v9, v10, .int ar, v12, v13, .int ct, .ref hQ])), (hQ, .inr (2, [.int sz1, k1, k2, k3, k4, k5, k6, k7, k8, k9, .ref hS1, .ref hB1, .int tq])), (hS1, .inl (cJ, 2, .inr (.inl sf))), (hB1, .inl (cB, 2, .inl bf))] U.heap ∧ va_K (dC, dI) vwCl [(cB, .byte), (cI, .int), (cJ, .long), (cZ, .boolean)] U ∧ va_D (fun _ => True) [(h0, .inr (12, [v0, .int ts, v2, v3, .int lf, v5, v6, v7, v8, v9, v10, .int ar, v12, v13, .int ct, .ref hQ])), (hQ, .inr (2, [.int sz1, k1, k2, k3, k4, k5, k6, k7, k8, k9, .ref hS1, .ref hB1, .int tq])), (hS1, .inl (cJ, 2, .inr (.inl sf))), (hB1, .inl (cB, 2, .inl bf))])
abbrev qc_t_three_3 (dC : Nat → ClassId) (dI : Nat → Nat → Nat) (cB cI cJ cZ : ClassId) (h0 hQ hS1 hB1 : Nat) (sz1 : Int32) (k1 k2 k3 k4 k5 k6 k7 k8 k9 : Value) (sf : Nat → Int64) (bf : Nat → Int32) (tq : Int32) (v0 v2 v3 v5 v6 v7 v8 v9 v10 v12 v13 : Value) (ts lf ar ct : Int32) (a b : Int32) (A : Nat → Prop) : Array Value → State → Outcome → State → Prop := va_Qi (fun (r : Int32) (u : (Nat → Int64) × (Nat → Int32)) => match u with | (s2, b2) => r = thr 3 a b) (fun (u : (Nat → Int64) × (Nat → Int32)) t_ => match u with | (s2, b2) => va_P (dC, dI) vwCl [(h0, .inr (12, [v0, .int ts, v2, v3, .int lf, v5, v6, v7, v8, v9, v10, .int ar, v12, v13, .int ct, .ref hQ])), (hQ, .inr (2, [.int sz1, k1, k2, k3, k4, k5, k6, k7, k8, k9, .ref hS1, .ref hB1, .int (nI (0 + 1))])), (hS1, .inl (cJ, 2, .inr (.inl s2))), (hB1, .inl (cB, 2, .inl b2))] t_.heap ∧ va_K (dC, dI) vwCl [(cB, .byte), (cI, .int), (cJ, .long), (cZ, .boolean)] t_ ∧ va_D A [(h0, .inr (12, [v0, .int ts, v2, v3, .int lf, v5, v6, v7, v8, v9, v10, .int ar, v12, v13, .int ct, .ref hQ])), (hQ, .inr (2, [.int sz1, k1, k2, k3, k4, k5, k6, k7, k8, k9, .ref hS1, .ref hB1, .int (nI (0 + 1))])), (hS1, .inl (cJ, 2, .inr (.inl s2))), (hB1, .inl (cB, 2, .inl b2))]) A
set_option maxHeartbeats 4000000 in
set_option maxRecDepth 100000 in
theorem t_three_3 (l : Launch) (dC : Nat → ClassId) (dI : Nat → Nat → Nat) (sz : Nat) (cB cI cJ cZ : ClassId) (h0 hQ hS1 hB1 : Nat) (sz1 : Int32) (k1 k2 k3 k4 k5 k6 k7 k8 k9 : Value) (sf : Nat → Int64) (bf : Nat → Int32) (tq : Int32) (v0 v2 v3 v5 v6 v7 v8 v9 v10 v12 v13 : Value) (ts lf ar ct : Int32) (a b : Int32)  : Met l yX11_three (wsOf yX11_three cX11_three 4 (some .int)) ({ frames := 3, cells := 0, slots := 0, locals := 180 }) (pc_t_three_3 dC dI sz cB cI cJ cZ h0 hQ hS1 hB1 sz1 k1 k2 k3 k4 k5 k6 k7 k8 k9 sf bf tq v0 v2 v3 v5 v6 v7 v8 v9 v10 v12 v13 ts lf ar ct a b) (qc_t_three_3 dC dI cB cI cJ cZ h0 hQ hS1 hB1 sz1 k1 k2 k3 k4 k5 k6 k7 k8 k9 sf bf tq v0 v2 v3 v5 v6 v7 v8 v9 v10 v12 v13 ts lf ar ct a b (va_A (cs_t_three_3 cB cI cJ cZ h0 hQ hS1 hB1 sz1 k1 k2 k3 k4 k5 k6 k7 k8 k9 sf bf tq v0 v2 v3 v5 v6 v7 v8 v9 v10 v12 v13 ts lf ar ct a b) sz)) 0 0 (va_A (cs_t_three_3 cB cI cJ cZ h0 hQ hS1 hB1 sz1 k1 k2 k3 k4 k5 k6 k7 k8 k9 sf bf tq v0 v2 v3 v5 v6 v7 v8 v9 v10 v12 v13 ts lf ar ct a b) sz) := by
  refine Met.ofW (cc := cX11_three) (maxL := 4) (ret := (some .int)) (by decide) rfl ?_
  intro p e s m args below meth c s₁ B hml hv
  obtain ⟨rfl, hsz, hP, hK, hD0⟩ := hv
  have hx := B.exec
  have hb := B.bytes
  have hr := B.returns
  have hts := atoms_spec (ws := (wsOf yX11_three cX11_three 4 (some .int))) B.pre
  have hown : s.vm.findClass RX11 = some m.cls := findClass_of_methodNamed B.named
  have hlocks := B.notSynchronized
  subst hsz
  have hD := hD0.self (sz := s.heap.size)
  generalize hAe : va_A (cs_t_three_3 cB cI cJ cZ h0 hQ hS1 hB1 sz1 k1 k2 k3 k4 k5 k6 k7 k8 k9 sf bf tq v0 v2 v3 v5 v6 v7 v8 v9 v10 v12 v13 ts lf ar ct a b) s.heap.size = A at hD ⊢
  have hA : ∀ q : Nat, s.heap.size ≤ q → A q := fun q h => by rw [← hAe]; exact Or.inr h
  have hS : va_S A s.heap s.heap [] := va_S.rf
  have hP : va_P (dC, dI) vwCl [(h0, .inr (12, [v0, .int ts, v2, v3, .int lf, v5, v6, v7, v8, v9, v10, .int ar, v12, v13, .int ct, .ref hQ])), (hQ, .inr (2, [.int sz1, k1, k2, k3, k4, k5, k6, k7, k8, k9, .ref hS1, .ref hB1, .int tq])), (hS1, .inl (cJ, 2, .inr (.inl sf))), (hB1, .inl (cB, 2, .inl bf))] s.heap := hP
  have hl := lv_entry ([.ref h0, .int 3, .int a, .int b]) (n := 4) (Nat.le_of_ble_eq_true rfl)
  rw [lg_entry_eq]
  generalize (lg_sl ([.ref h0, .int 3, .int a, .int b]) ++ List.replicate (4 - (lg_sl ([.ref h0, .int 3, .int a, .int b])).length) Slot.unset).toArray = ls at hl ⊢
  have hl : lv_has ls 4 [(0, .ref h0), (1, .int 3), (2, .int a), (3, .int b)] := hl
  refine lv_iload_n hx hb dX11_three_0 rfl (lv_at hl 1 rfl) ?_
  refine lv_tableIn (tgt := 76) (off := 75) hx hb dX11_three_1 (by decide) (by decide) (by decide) (by decide) ?_
  refine lv_aload_n hx hb dX11_three_76 rfl (lv_at hl 0 rfl) ?_
  refine va_get (D := (dC, dI)) (ci := 12) (v := .ref hQ) (C := RX11) (T := TX11) (N := 16) hx hb hts (fun w h => List.mem_cons_of_mem _ (uG_X11 w h)) hown hK hP 0 rfl rfl 15 (by decide) (hts _ (List.mem_cons_of_mem _ kw_443)) (fun _ h9 => h9) rfl dX11_three_77 ?_
  refine lv_bipush (v := 50) hx hb dX11_three_80 (by decide) ?_
  refine lv_iload_n hx hb dX11_three_82 rfl (lv_at hl 2 rfl) ?_
  refine lv_iload_n hx hb dX11_three_83 rfl (lv_at hl 3 rfl) ?_
  have hPc := hP.sub (ws' := [(hQ, .inr (2, [.int sz1, k1, k2, k3, k4, k5, k6, k7, k8, k9, .ref hS1, .ref hB1, .int tq])), (hS1, .inl (cJ, 2, .inr (.inl sf))), (hB1, .inl (cB, 2, .inl bf))]) [1, 2, 3] rfl
  have hDc := hD.sub (ws' := [(hQ, .inr (2, [.int sz1, k1, k2, k3, k4, k5, k6, k7, k8, k9, .ref hS1, .ref hB1, .int tq])), (hS1, .inl (cJ, 2, .inr (.inl sf))), (hB1, .inl (cB, 2, .inl bf))]) [1, 2, 3] (by decide) rfl
  have hKc := hK.sub (tys' := [(cB, .byte), (cI, .int), (cJ, .long), (cZ, .boolean)]) [0, 1, 2, 3] rfl
  have hFc := va_free (wc := [(hQ, .inr (2, [.int sz1, k1, k2, k3, k4, k5, k6, k7, k8, k9, .ref hS1, .ref hB1, .int tq])), (hS1, .inl (cJ, 2, .inr (.inl sf))), (hB1, .inl (cB, 2, .inl bf))]) hD hS hA [1, 2, 3] rfl
  refine va_calli (va_runV (As := [.int 50, .int a, .int b]) (rest := []) ⟨hx, hb, hml, hown, hts⟩ (t_weigh_eq l dC dI s.heap.size cB cI cJ cZ hQ hS1 hB1 sz1 k1 k2 k3 k4 k5 k6 k7 k8 k9 sf bf tq a b) (cwV 3 hts (gd_all (in_V kw_1664 kw_1665 kw_1666 kw_189 kc_X1_weigh)) rfl rfl rfl (by decide +kernel) ⟨Nat.le_of_ble_eq_true rfl, Nat.le_of_ble_eq_true rfl⟩) ⟨fun a U g mk q => by obtain ⟨q0, q1, qP, qK, qD⟩ := q; exact ⟨q0, q1, qP, va_K.moved (u := U) (U := U.calling g mk a) (Vm.Alike.refl U.vm) qK, qD⟩, va_recv hKc hPc (ci := 2) (q0 := 0) rfl rfl, fun U hU hW => ⟨rfl, by rw [hU], by rw [hU]; exact hPc, va_K.moved hW.alike hKc, hDc.weaken (fun _ _ _ _ => trivial)⟩⟩ rfl rfl hl.1 rfl (lv_room (Nat.le_of_ble_eq_true rfl)) dX11_three_84 ⟨Nat.le_of_ble_eq_true rfl, Nat.le_of_ble_eq_true rfl⟩) hS (fun q _ h => hFc q h) hFc (fun r_1 u t_ H1 locs ht hvm hw hB hz1 hk1 hS => ?_)
  obtain ⟨s2, b2⟩ := u
  obtain ⟨hP1, hK1, hD1⟩ := hB
  rw [ht] at hP1
  have hK1 := va_K.moved hvm.symm hK1
  obtain ⟨hP, hD⟩ := va_join (wr := [(h0, .inr (12, [v0, .int ts, v2, v3, .int lf, v5, v6, v7, v8, v9, v10, .int ar, v12, v13, .int ct, .ref hQ]))]) (w1 := [(hQ, .inr (2, [.int sz1, k1, k2, k3, k4, k5, k6, k7, k8, k9, .ref hS1, .ref hB1, .int (nI (0 + 1))])), (hS1, .inl (cJ, 2, .inr (.inl s2))), (hB1, .inl (cB, 2, .inl b2))]) hP hD [1, 2, 3] [0] rfl rfl (by decide) (by decide) hk1 hFc hP1 hD1
  have hK := (hK.sub (tys' := []) [] rfl).app hK1
  generalize H1 = H at hP hS ⊢
  have hP : va_P (dC, dI) vwCl [(h0, .inr (12, [v0, .int ts, v2, v3, .int lf, v5, v6, v7, v8, v9, v10, .int ar, v12, v13, .int ct, .ref hQ])), (hQ, .inr (2, [.int sz1, k1, k2, k3, k4, k5, k6, k7, k8, k9, .ref hS1, .ref hB1, .int (nI (0 + 1))])), (hS1, .inl (cJ, 2, .inr (.inl s2))), (hB1, .inl (cB, 2, .inl b2))] H := hP
  have hD : va_D A [(h0, .inr (12, [v0, .int ts, v2, v3, .int lf, v5, v6, v7, v8, v9, v10, .int ar, v12, v13, .int ct, .ref hQ])), (hQ, .inr (2, [.int sz1, k1, k2, k3, k4, k5, k6, k7, k8, k9, .ref hS1, .ref hB1, .int (nI (0 + 1))])), (hS1, .inl (cJ, 2, .inr (.inl s2))), (hB1, .inl (cB, 2, .inl b2))] := hD
  have hK : va_K (dC, dI) vwCl [(cB, .byte), (cI, .int), (cJ, .long), (cZ, .boolean)] s := hK
  have er_1 : r_1 = thr 3 a b := hw
  rw [er_1]
  have hP9 := hP.sub (ws' := [(h0, .inr (12, [v0, .int ts, v2, v3, .int lf, v5, v6, v7, v8, v9, v10, .int ar, v12, v13, .int ct, .ref hQ])), (hQ, .inr (2, [.int sz1, k1, k2, k3, k4, k5, k6, k7, k8, k9, .ref hS1, .ref hB1, .int (nI (0 + 1))])), (hS1, .inl (cJ, 2, .inr (.inl s2))), (hB1, .inl (cB, 2, .inl b2))]) [0, 1, 2, 3] rfl
  have hD9 := hD.sub (ws' := [(h0, .inr (12, [v0, .int ts, v2, v3, .int lf, v5, v6, v7, v8, v9, v10, .int ar, v12, v13, .int ct, .ref hQ])), (hQ, .inr (2, [.int sz1, k1, k2, k3, k4, k5, k6, k7, k8, k9, .ref hS1, .ref hB1, .int (nI (0 + 1))])), (hS1, .inl (cJ, 2, .inr (.inl s2))), (hB1, .inl (cB, 2, .inl b2))]) [0, 1, 2, 3] (by decide) rfl
  have hK9 := hK.sub (tys' := [(cB, .byte), (cI, .int), (cJ, .long), (cZ, .boolean)]) [0, 1, 2, 3] rfl
  exact W.iret (v := (thr 3 a b)) hx hb hr (fun t_ ht hW => ⟨⟨(thr 3 a b), (s2, b2), rfl, rfl, by rw [ht]; exact hP9, va_K.moved hW.alike hK9, hD9⟩, hS.F ht⟩) hS.2.2 dX11_three_87
abbrev cs_t_three_4 (cB cI cJ cZ : ClassId) (h0 hQ hS1 hB1 : Nat) (sz1 : Int32) (k1 k2 k3 k4 k5 k6 k7 k8 k9 : Value) (sf : Nat → Int64) (bf : Nat → Int32) (tq : Int32) (v0 v2 v3 v5 v6 v7 v8 v9 v10 v12 v13 : Value) (ts lf ar ct : Int32) (a b : Int32) : va_W := [(h0, .inr (12, [v0, .int ts, v2, v3, .int lf, v5, v6, v7, v8, v9, v10, .int ar, v12, v13, .int ct, .ref hQ])), (hQ, .inr (2, [.int sz1, k1, k2, k3, k4, k5, k6, k7, k8, k9, .ref hS1, .ref hB1, .int tq])), (hS1, .inl (cJ, 2, .inr (.inl sf))), (hB1, .inl (cB, 2, .inl bf))]
abbrev pc_t_three_4 (dC : Nat → ClassId) (dI : Nat → Nat → Nat) (sz : Nat) (cB cI cJ cZ : ClassId) (h0 hQ hS1 hB1 : Nat) (sz1 : Int32) (k1 k2 k3 k4 k5 k6 k7 k8 k9 : Value) (sf : Nat → Int64) (bf : Nat → Int32) (tq : Int32) (v0 v2 v3 v5 v6 v7 v8 v9 v10 v12 v13 : Value) (ts lf ar ct : Int32) (a b : Int32) : Array Value → State → Prop := va_Pc [.ref h0, .int 4, .int a, .int b] (fun U => U.heap.size = sz ∧ va_P (dC, dI) vwCl [(h0, .inr (12, [v0, .int ts, v2, v3, .int lf, v5, v6, v7, v8, v9, v10, .int ar, v12, v13, .int ct, .ref hQ])), (hQ, .inr (2, [.int sz1, k1, k2, k3, k4, k5, k6, k7, k8, k9, .ref hS1, .ref hB1, .int tq])), (hS1, .inl (cJ, 2, .inr (.inl sf))), (hB1, .inl (cB, 2, .inl bf))] U.heap ∧ va_K (dC, dI) vwCl [(cB, .byte), (cI, .int), (cJ, .long), (cZ, .boolean)] U ∧ va_D (fun _ => True) [(h0, .inr (12, [v0, .int ts, v2, v3, .int lf, v5, v6, v7, v8, v9, v10, .int ar, v12, v13, .int ct, .ref hQ])), (hQ, .inr (2, [.int sz1, k1, k2, k3, k4, k5, k6, k7, k8, k9, .ref hS1, .ref hB1, .int tq])), (hS1, .inl (cJ, 2, .inr (.inl sf))), (hB1, .inl (cB, 2, .inl bf))])
abbrev qc_t_three_4 (dC : Nat → ClassId) (dI : Nat → Nat → Nat) (cB cI cJ cZ : ClassId) (h0 hQ hS1 hB1 : Nat) (sz1 : Int32) (k1 k2 k3 k4 k5 k6 k7 k8 k9 : Value) (sf : Nat → Int64) (bf : Nat → Int32) (tq : Int32) (v0 v2 v3 v5 v6 v7 v8 v9 v10 v12 v13 : Value) (ts lf ar ct : Int32) (a b : Int32) (A : Nat → Prop) : Array Value → State → Outcome → State → Prop := va_Qi (fun (r : Int32) (u : (Nat → Int64) × (Nat → Int32)) => match u with | (s2, b2) => r = thr 4 a b) (fun (u : (Nat → Int64) × (Nat → Int32)) t_ => match u with | (s2, b2) => va_P (dC, dI) vwCl [(h0, .inr (12, [v0, .int ts, v2, v3, .int lf, v5, v6, v7, v8, v9, v10, .int ar, v12, v13, .int ct, .ref hQ])), (hQ, .inr (2, [.int sz1, k1, k2, k3, k4, k5, k6, k7, k8, k9, .ref hS1, .ref hB1, .int (nI (0 + 1))])), (hS1, .inl (cJ, 2, .inr (.inl s2))), (hB1, .inl (cB, 2, .inl b2))] t_.heap ∧ va_K (dC, dI) vwCl [(cB, .byte), (cI, .int), (cJ, .long), (cZ, .boolean)] t_ ∧ va_D A [(h0, .inr (12, [v0, .int ts, v2, v3, .int lf, v5, v6, v7, v8, v9, v10, .int ar, v12, v13, .int ct, .ref hQ])), (hQ, .inr (2, [.int sz1, k1, k2, k3, k4, k5, k6, k7, k8, k9, .ref hS1, .ref hB1, .int (nI (0 + 1))])), (hS1, .inl (cJ, 2, .inr (.inl s2))), (hB1, .inl (cB, 2, .inl b2))]) A
set_option maxHeartbeats 4000000 in
set_option maxRecDepth 100000 in
theorem t_three_4 (l : Launch) (dC : Nat → ClassId) (dI : Nat → Nat → Nat) (sz : Nat) (cB cI cJ cZ : ClassId) (h0 hQ hS1 hB1 : Nat) (sz1 : Int32) (k1 k2 k3 k4 k5 k6 k7 k8 k9 : Value) (sf : Nat → Int64) (bf : Nat → Int32) (tq : Int32) (v0 v2 v3 v5 v6 v7 v8 v9 v10 v12 v13 : Value) (ts lf ar ct : Int32) (a b : Int32)  : Met l yX11_three (wsOf yX11_three cX11_three 4 (some .int)) ({ frames := 3, cells := 0, slots := 0, locals := 180 }) (pc_t_three_4 dC dI sz cB cI cJ cZ h0 hQ hS1 hB1 sz1 k1 k2 k3 k4 k5 k6 k7 k8 k9 sf bf tq v0 v2 v3 v5 v6 v7 v8 v9 v10 v12 v13 ts lf ar ct a b) (qc_t_three_4 dC dI cB cI cJ cZ h0 hQ hS1 hB1 sz1 k1 k2 k3 k4 k5 k6 k7 k8 k9 sf bf tq v0 v2 v3 v5 v6 v7 v8 v9 v10 v12 v13 ts lf ar ct a b (va_A (cs_t_three_4 cB cI cJ cZ h0 hQ hS1 hB1 sz1 k1 k2 k3 k4 k5 k6 k7 k8 k9 sf bf tq v0 v2 v3 v5 v6 v7 v8 v9 v10 v12 v13 ts lf ar ct a b) sz)) 0 0 (va_A (cs_t_three_4 cB cI cJ cZ h0 hQ hS1 hB1 sz1 k1 k2 k3 k4 k5 k6 k7 k8 k9 sf bf tq v0 v2 v3 v5 v6 v7 v8 v9 v10 v12 v13 ts lf ar ct a b) sz) := by
  refine Met.ofW (cc := cX11_three) (maxL := 4) (ret := (some .int)) (by decide) rfl ?_
  intro p e s m args below meth c s₁ B hml hv
  obtain ⟨rfl, hsz, hP, hK, hD0⟩ := hv
  have hx := B.exec
  have hb := B.bytes
  have hr := B.returns
  have hts := atoms_spec (ws := (wsOf yX11_three cX11_three 4 (some .int))) B.pre
  have hown : s.vm.findClass RX11 = some m.cls := findClass_of_methodNamed B.named
  have hlocks := B.notSynchronized
  subst hsz
  have hD := hD0.self (sz := s.heap.size)
  generalize hAe : va_A (cs_t_three_4 cB cI cJ cZ h0 hQ hS1 hB1 sz1 k1 k2 k3 k4 k5 k6 k7 k8 k9 sf bf tq v0 v2 v3 v5 v6 v7 v8 v9 v10 v12 v13 ts lf ar ct a b) s.heap.size = A at hD ⊢
  have hA : ∀ q : Nat, s.heap.size ≤ q → A q := fun q h => by rw [← hAe]; exact Or.inr h
  have hS : va_S A s.heap s.heap [] := va_S.rf
  have hP : va_P (dC, dI) vwCl [(h0, .inr (12, [v0, .int ts, v2, v3, .int lf, v5, v6, v7, v8, v9, v10, .int ar, v12, v13, .int ct, .ref hQ])), (hQ, .inr (2, [.int sz1, k1, k2, k3, k4, k5, k6, k7, k8, k9, .ref hS1, .ref hB1, .int tq])), (hS1, .inl (cJ, 2, .inr (.inl sf))), (hB1, .inl (cB, 2, .inl bf))] s.heap := hP
  have hl := lv_entry ([.ref h0, .int 4, .int a, .int b]) (n := 4) (Nat.le_of_ble_eq_true rfl)
  rw [lg_entry_eq]
  generalize (lg_sl ([.ref h0, .int 4, .int a, .int b]) ++ List.replicate (4 - (lg_sl ([.ref h0, .int 4, .int a, .int b])).length) Slot.unset).toArray = ls at hl ⊢
  have hl : lv_has ls 4 [(0, .ref h0), (1, .int 4), (2, .int a), (3, .int b)] := hl
  refine lv_iload_n hx hb dX11_three_0 rfl (lv_at hl 1 rfl) ?_
  refine lv_tableIn (tgt := 88) (off := 87) hx hb dX11_three_1 (by decide) (by decide) (by decide) (by decide) ?_
  refine lv_aload_n hx hb dX11_three_88 rfl (lv_at hl 0 rfl) ?_
  refine va_get (D := (dC, dI)) (ci := 12) (v := .ref hQ) (C := RX11) (T := TX11) (N := 16) hx hb hts (fun w h => List.mem_cons_of_mem _ (uG_X11 w h)) hown hK hP 0 rfl rfl 15 (by decide) (hts _ (List.mem_cons_of_mem _ kw_443)) (fun _ h9 => h9) rfl dX11_three_89 ?_
  refine lv_bipush (v := 51) hx hb dX11_three_92 (by decide) ?_
  refine lv_iload_n hx hb dX11_three_94 rfl (lv_at hl 2 rfl) ?_
  refine lv_iload_n hx hb dX11_three_95 rfl (lv_at hl 3 rfl) ?_
  have hPc := hP.sub (ws' := [(hQ, .inr (2, [.int sz1, k1, k2, k3, k4, k5, k6, k7, k8, k9, .ref hS1, .ref hB1, .int tq])), (hS1, .inl (cJ, 2, .inr (.inl sf))), (hB1, .inl (cB, 2, .inl bf))]) [1, 2, 3] rfl
  have hDc := hD.sub (ws' := [(hQ, .inr (2, [.int sz1, k1, k2, k3, k4, k5, k6, k7, k8, k9, .ref hS1, .ref hB1, .int tq])), (hS1, .inl (cJ, 2, .inr (.inl sf))), (hB1, .inl (cB, 2, .inl bf))]) [1, 2, 3] (by decide) rfl
  have hKc := hK.sub (tys' := [(cB, .byte), (cI, .int), (cJ, .long), (cZ, .boolean)]) [0, 1, 2, 3] rfl
  have hFc := va_free (wc := [(hQ, .inr (2, [.int sz1, k1, k2, k3, k4, k5, k6, k7, k8, k9, .ref hS1, .ref hB1, .int tq])), (hS1, .inl (cJ, 2, .inr (.inl sf))), (hB1, .inl (cB, 2, .inl bf))]) hD hS hA [1, 2, 3] rfl
  refine va_calli (va_runV (As := [.int 51, .int a, .int b]) (rest := []) ⟨hx, hb, hml, hown, hts⟩ (t_weigh_lt l dC dI s.heap.size cB cI cJ cZ hQ hS1 hB1 sz1 k1 k2 k3 k4 k5 k6 k7 k8 k9 sf bf tq a b) (cwV 3 hts (gd_all (in_V kw_1664 kw_1665 kw_1666 kw_189 kc_X1_weigh)) rfl rfl rfl (by decide +kernel) ⟨Nat.le_of_ble_eq_true rfl, Nat.le_of_ble_eq_true rfl⟩) ⟨fun a U g mk q => by obtain ⟨q0, q1, qP, qK, qD⟩ := q; exact ⟨q0, q1, qP, va_K.moved (u := U) (U := U.calling g mk a) (Vm.Alike.refl U.vm) qK, qD⟩, va_recv hKc hPc (ci := 2) (q0 := 0) rfl rfl, fun U hU hW => ⟨rfl, by rw [hU], by rw [hU]; exact hPc, va_K.moved hW.alike hKc, hDc.weaken (fun _ _ _ _ => trivial)⟩⟩ rfl rfl hl.1 rfl (lv_room (Nat.le_of_ble_eq_true rfl)) dX11_three_96 ⟨Nat.le_of_ble_eq_true rfl, Nat.le_of_ble_eq_true rfl⟩) hS (fun q _ h => hFc q h) hFc (fun r_1 u t_ H1 locs ht hvm hw hB hz1 hk1 hS => ?_)
  obtain ⟨s2, b2⟩ := u
  obtain ⟨hP1, hK1, hD1⟩ := hB
  rw [ht] at hP1
  have hK1 := va_K.moved hvm.symm hK1
  obtain ⟨hP, hD⟩ := va_join (wr := [(h0, .inr (12, [v0, .int ts, v2, v3, .int lf, v5, v6, v7, v8, v9, v10, .int ar, v12, v13, .int ct, .ref hQ]))]) (w1 := [(hQ, .inr (2, [.int sz1, k1, k2, k3, k4, k5, k6, k7, k8, k9, .ref hS1, .ref hB1, .int (nI (0 + 1))])), (hS1, .inl (cJ, 2, .inr (.inl s2))), (hB1, .inl (cB, 2, .inl b2))]) hP hD [1, 2, 3] [0] rfl rfl (by decide) (by decide) hk1 hFc hP1 hD1
  have hK := (hK.sub (tys' := []) [] rfl).app hK1
  generalize H1 = H at hP hS ⊢
  have hP : va_P (dC, dI) vwCl [(h0, .inr (12, [v0, .int ts, v2, v3, .int lf, v5, v6, v7, v8, v9, v10, .int ar, v12, v13, .int ct, .ref hQ])), (hQ, .inr (2, [.int sz1, k1, k2, k3, k4, k5, k6, k7, k8, k9, .ref hS1, .ref hB1, .int (nI (0 + 1))])), (hS1, .inl (cJ, 2, .inr (.inl s2))), (hB1, .inl (cB, 2, .inl b2))] H := hP
  have hD : va_D A [(h0, .inr (12, [v0, .int ts, v2, v3, .int lf, v5, v6, v7, v8, v9, v10, .int ar, v12, v13, .int ct, .ref hQ])), (hQ, .inr (2, [.int sz1, k1, k2, k3, k4, k5, k6, k7, k8, k9, .ref hS1, .ref hB1, .int (nI (0 + 1))])), (hS1, .inl (cJ, 2, .inr (.inl s2))), (hB1, .inl (cB, 2, .inl b2))] := hD
  have hK : va_K (dC, dI) vwCl [(cB, .byte), (cI, .int), (cJ, .long), (cZ, .boolean)] s := hK
  have er_1 : r_1 = thr 4 a b := hw
  rw [er_1]
  have hP9 := hP.sub (ws' := [(h0, .inr (12, [v0, .int ts, v2, v3, .int lf, v5, v6, v7, v8, v9, v10, .int ar, v12, v13, .int ct, .ref hQ])), (hQ, .inr (2, [.int sz1, k1, k2, k3, k4, k5, k6, k7, k8, k9, .ref hS1, .ref hB1, .int (nI (0 + 1))])), (hS1, .inl (cJ, 2, .inr (.inl s2))), (hB1, .inl (cB, 2, .inl b2))]) [0, 1, 2, 3] rfl
  have hD9 := hD.sub (ws' := [(h0, .inr (12, [v0, .int ts, v2, v3, .int lf, v5, v6, v7, v8, v9, v10, .int ar, v12, v13, .int ct, .ref hQ])), (hQ, .inr (2, [.int sz1, k1, k2, k3, k4, k5, k6, k7, k8, k9, .ref hS1, .ref hB1, .int (nI (0 + 1))])), (hS1, .inl (cJ, 2, .inr (.inl s2))), (hB1, .inl (cB, 2, .inl b2))]) [0, 1, 2, 3] (by decide) rfl
  have hK9 := hK.sub (tys' := [(cB, .byte), (cI, .int), (cJ, .long), (cZ, .boolean)]) [0, 1, 2, 3] rfl
  exact W.iret (v := (thr 4 a b)) hx hb hr (fun t_ ht hW => ⟨⟨(thr 4 a b), (s2, b2), rfl, rfl, by rw [ht]; exact hP9, va_K.moved hW.alike hK9, hD9⟩, hS.F ht⟩) hS.2.2 dX11_three_99
abbrev cs_t_three_5 (cB cI cJ cZ : ClassId) (h0 hQ hS1 hB1 : Nat) (sz1 : Int32) (k1 k2 k3 k4 k5 k6 k7 k8 k9 : Value) (sf : Nat → Int64) (bf : Nat → Int32) (tq : Int32) (v0 v2 v3 v5 v6 v7 v8 v9 v10 v12 v13 : Value) (ts lf ar ct : Int32) (a b : Int32) : va_W := [(h0, .inr (12, [v0, .int ts, v2, v3, .int lf, v5, v6, v7, v8, v9, v10, .int ar, v12, v13, .int ct, .ref hQ])), (hQ, .inr (2, [.int sz1, k1, k2, k3, k4, k5, k6, k7, k8, k9, .ref hS1, .ref hB1, .int tq])), (hS1, .inl (cJ, 2, .inr (.inl sf))), (hB1, .inl (cB, 2, .inl bf))]
abbrev pc_t_three_5 (dC : Nat → ClassId) (dI : Nat → Nat → Nat) (sz : Nat) (cB cI cJ cZ : ClassId) (h0 hQ hS1 hB1 : Nat) (sz1 : Int32) (k1 k2 k3 k4 k5 k6 k7 k8 k9 : Value) (sf : Nat → Int64) (bf : Nat → Int32) (tq : Int32) (v0 v2 v3 v5 v6 v7 v8 v9 v10 v12 v13 : Value) (ts lf ar ct : Int32) (a b : Int32) : Array Value → State → Prop := va_Pc [.ref h0, .int 5, .int a, .int b] (fun U => U.heap.size = sz ∧ va_P (dC, dI) vwCl [(h0, .inr (12, [v0, .int ts, v2, v3, .int lf, v5, v6, v7, v8, v9, v10, .int ar, v12, v13, .int ct, .ref hQ])), (hQ, .inr (2, [.int sz1, k1, k2, k3, k4, k5, k6, k7, k8, k9, .ref hS1, .ref hB1, .int tq])), (hS1, .inl (cJ, 2, .inr (.inl sf))), (hB1, .inl (cB, 2, .inl bf))] U.heap ∧ va_K (dC, dI) vwCl [(cB, .byte), (cI, .int), (cJ, .long), (cZ, .boolean)] U ∧ va_D (fun _ => True) [(h0, .inr (12, [v0, .int ts, v2, v3, .int lf, v5, v6, v7, v8, v9, v10, .int ar, v12, v13, .int ct, .ref hQ])), (hQ, .inr (2, [.int sz1, k1, k2, k3, k4, k5, k6, k7, k8, k9, .ref hS1, .ref hB1, .int tq])), (hS1, .inl (cJ, 2, .inr (.inl sf))), (hB1, .inl (cB, 2, .inl bf))])
abbrev qc_t_three_5 (dC : Nat → ClassId) (dI : Nat → Nat → Nat) (cB cI cJ cZ : ClassId) (h0 hQ hS1 hB1 : Nat) (sz1 : Int32) (k1 k2 k3 k4 k5 k6 k7 k8 k9 : Value) (sf : Nat → Int64) (bf : Nat → Int32) (tq : Int32) (v0 v2 v3 v5 v6 v7 v8 v9 v10 v12 v13 : Value) (ts lf ar ct : Int32) (a b : Int32) (A : Nat → Prop) : Array Value → State → Outcome → State → Prop := va_Qi (fun (r : Int32) (u : (Nat → Int64) × (Nat → Int32)) => match u with | (s2, b2) => r = thr 5 a b) (fun (u : (Nat → Int64) × (Nat → Int32)) t_ => match u with | (s2, b2) => va_P (dC, dI) vwCl [(h0, .inr (12, [v0, .int ts, v2, v3, .int lf, v5, v6, v7, v8, v9, v10, .int ar, v12, v13, .int ct, .ref hQ])), (hQ, .inr (2, [.int sz1, k1, k2, k3, k4, k5, k6, k7, k8, k9, .ref hS1, .ref hB1, .int (nI (0 + 1))])), (hS1, .inl (cJ, 2, .inr (.inl s2))), (hB1, .inl (cB, 2, .inl b2))] t_.heap ∧ va_K (dC, dI) vwCl [(cB, .byte), (cI, .int), (cJ, .long), (cZ, .boolean)] t_ ∧ va_D A [(h0, .inr (12, [v0, .int ts, v2, v3, .int lf, v5, v6, v7, v8, v9, v10, .int ar, v12, v13, .int ct, .ref hQ])), (hQ, .inr (2, [.int sz1, k1, k2, k3, k4, k5, k6, k7, k8, k9, .ref hS1, .ref hB1, .int (nI (0 + 1))])), (hS1, .inl (cJ, 2, .inr (.inl s2))), (hB1, .inl (cB, 2, .inl b2))]) A
set_option maxHeartbeats 4000000 in
set_option maxRecDepth 100000 in
theorem t_three_5 (l : Launch) (dC : Nat → ClassId) (dI : Nat → Nat → Nat) (sz : Nat) (cB cI cJ cZ : ClassId) (h0 hQ hS1 hB1 : Nat) (sz1 : Int32) (k1 k2 k3 k4 k5 k6 k7 k8 k9 : Value) (sf : Nat → Int64) (bf : Nat → Int32) (tq : Int32) (v0 v2 v3 v5 v6 v7 v8 v9 v10 v12 v13 : Value) (ts lf ar ct : Int32) (a b : Int32)  : Met l yX11_three (wsOf yX11_three cX11_three 4 (some .int)) ({ frames := 3, cells := 0, slots := 0, locals := 180 }) (pc_t_three_5 dC dI sz cB cI cJ cZ h0 hQ hS1 hB1 sz1 k1 k2 k3 k4 k5 k6 k7 k8 k9 sf bf tq v0 v2 v3 v5 v6 v7 v8 v9 v10 v12 v13 ts lf ar ct a b) (qc_t_three_5 dC dI cB cI cJ cZ h0 hQ hS1 hB1 sz1 k1 k2 k3 k4 k5 k6 k7 k8 k9 sf bf tq v0 v2 v3 v5 v6 v7 v8 v9 v10 v12 v13 ts lf ar ct a b (va_A (cs_t_three_5 cB cI cJ cZ h0 hQ hS1 hB1 sz1 k1 k2 k3 k4 k5 k6 k7 k8 k9 sf bf tq v0 v2 v3 v5 v6 v7 v8 v9 v10 v12 v13 ts lf ar ct a b) sz)) 0 0 (va_A (cs_t_three_5 cB cI cJ cZ h0 hQ hS1 hB1 sz1 k1 k2 k3 k4 k5 k6 k7 k8 k9 sf bf tq v0 v2 v3 v5 v6 v7 v8 v9 v10 v12 v13 ts lf ar ct a b) sz) := by
  refine Met.ofW (cc := cX11_three) (maxL := 4) (ret := (some .int)) (by decide) rfl ?_
  intro p e s m args below meth c s₁ B hml hv
  obtain ⟨rfl, hsz, hP, hK, hD0⟩ := hv
  have hx := B.exec
  have hb := B.bytes
  have hr := B.returns
  have hts := atoms_spec (ws := (wsOf yX11_three cX11_three 4 (some .int))) B.pre
  have hown : s.vm.findClass RX11 = some m.cls := findClass_of_methodNamed B.named
  have hlocks := B.notSynchronized
  subst hsz
  have hD := hD0.self (sz := s.heap.size)
  generalize hAe : va_A (cs_t_three_5 cB cI cJ cZ h0 hQ hS1 hB1 sz1 k1 k2 k3 k4 k5 k6 k7 k8 k9 sf bf tq v0 v2 v3 v5 v6 v7 v8 v9 v10 v12 v13 ts lf ar ct a b) s.heap.size = A at hD ⊢
  have hA : ∀ q : Nat, s.heap.size ≤ q → A q := fun q h => by rw [← hAe]; exact Or.inr h
  have hS : va_S A s.heap s.heap [] := va_S.rf
  have hP : va_P (dC, dI) vwCl [(h0, .inr (12, [v0, .int ts, v2, v3, .int lf, v5, v6, v7, v8, v9, v10, .int ar, v12, v13, .int ct, .ref hQ])), (hQ, .inr (2, [.int sz1, k1, k2, k3, k4, k5, k6, k7, k8, k9, .ref hS1, .ref hB1, .int tq])), (hS1, .inl (cJ, 2, .inr (.inl sf))), (hB1, .inl (cB, 2, .inl bf))] s.heap := hP
  have hl := lv_entry ([.ref h0, .int 5, .int a, .int b]) (n := 4) (Nat.le_of_ble_eq_true rfl)
  rw [lg_entry_eq]
  generalize (lg_sl ([.ref h0, .int 5, .int a, .int b]) ++ List.replicate (4 - (lg_sl ([.ref h0, .int 5, .int a, .int b])).length) Slot.unset).toArray = ls at hl ⊢
  have hl : lv_has ls 4 [(0, .ref h0), (1, .int 5), (2, .int a), (3, .int b)] := hl
  refine lv_iload_n hx hb dX11_three_0 rfl (lv_at hl 1 rfl) ?_
  refine lv_tableIn (tgt := 100) (off := 99) hx hb dX11_three_1 (by decide) (by decide) (by decide) (by decide) ?_
  refine lv_aload_n hx hb dX11_three_100 rfl (lv_at hl 0 rfl) ?_
  refine va_get (D := (dC, dI)) (ci := 12) (v := .ref hQ) (C := RX11) (T := TX11) (N := 16) hx hb hts (fun w h => List.mem_cons_of_mem _ (uG_X11 w h)) hown hK hP 0 rfl rfl 15 (by decide) (hts _ (List.mem_cons_of_mem _ kw_443)) (fun _ h9 => h9) rfl dX11_three_101 ?_
  refine lv_bipush (v := 45) hx hb dX11_three_104 (by decide) ?_
  refine lv_iload_n hx hb dX11_three_106 rfl (lv_at hl 2 rfl) ?_
  refine lv_iload_n hx hb dX11_three_107 rfl (lv_at hl 3 rfl) ?_
  have hPc := hP.sub (ws' := [(hQ, .inr (2, [.int sz1, k1, k2, k3, k4, k5, k6, k7, k8, k9, .ref hS1, .ref hB1, .int tq])), (hS1, .inl (cJ, 2, .inr (.inl sf))), (hB1, .inl (cB, 2, .inl bf))]) [1, 2, 3] rfl
  have hDc := hD.sub (ws' := [(hQ, .inr (2, [.int sz1, k1, k2, k3, k4, k5, k6, k7, k8, k9, .ref hS1, .ref hB1, .int tq])), (hS1, .inl (cJ, 2, .inr (.inl sf))), (hB1, .inl (cB, 2, .inl bf))]) [1, 2, 3] (by decide) rfl
  have hKc := hK.sub (tys' := [(cB, .byte), (cI, .int), (cJ, .long), (cZ, .boolean)]) [0, 1, 2, 3] rfl
  have hFc := va_free (wc := [(hQ, .inr (2, [.int sz1, k1, k2, k3, k4, k5, k6, k7, k8, k9, .ref hS1, .ref hB1, .int tq])), (hS1, .inl (cJ, 2, .inr (.inl sf))), (hB1, .inl (cB, 2, .inl bf))]) hD hS hA [1, 2, 3] rfl
  refine va_calli (va_runV (As := [.int 45, .int a, .int b]) (rest := []) ⟨hx, hb, hml, hown, hts⟩ (t_weigh_plus l dC dI s.heap.size cB cI cJ cZ hQ hS1 hB1 sz1 k1 k2 k3 k4 k5 k6 k7 k8 k9 sf bf tq a b) (cwV 3 hts (gd_all (in_V kw_1664 kw_1665 kw_1666 kw_189 kc_X1_weigh)) rfl rfl rfl (by decide +kernel) ⟨Nat.le_of_ble_eq_true rfl, Nat.le_of_ble_eq_true rfl⟩) ⟨fun a U g mk q => by obtain ⟨q0, q1, qP, qK, qD⟩ := q; exact ⟨q0, q1, qP, va_K.moved (u := U) (U := U.calling g mk a) (Vm.Alike.refl U.vm) qK, qD⟩, va_recv hKc hPc (ci := 2) (q0 := 0) rfl rfl, fun U hU hW => ⟨rfl, by rw [hU], by rw [hU]; exact hPc, va_K.moved hW.alike hKc, hDc.weaken (fun _ _ _ _ => trivial)⟩⟩ rfl rfl hl.1 rfl (lv_room (Nat.le_of_ble_eq_true rfl)) dX11_three_108 ⟨Nat.le_of_ble_eq_true rfl, Nat.le_of_ble_eq_true rfl⟩) hS (fun q _ h => hFc q h) hFc (fun r_1 u t_ H1 locs ht hvm hw hB hz1 hk1 hS => ?_)
  obtain ⟨s2, b2⟩ := u
  obtain ⟨hP1, hK1, hD1⟩ := hB
  rw [ht] at hP1
  have hK1 := va_K.moved hvm.symm hK1
  obtain ⟨hP, hD⟩ := va_join (wr := [(h0, .inr (12, [v0, .int ts, v2, v3, .int lf, v5, v6, v7, v8, v9, v10, .int ar, v12, v13, .int ct, .ref hQ]))]) (w1 := [(hQ, .inr (2, [.int sz1, k1, k2, k3, k4, k5, k6, k7, k8, k9, .ref hS1, .ref hB1, .int (nI (0 + 1))])), (hS1, .inl (cJ, 2, .inr (.inl s2))), (hB1, .inl (cB, 2, .inl b2))]) hP hD [1, 2, 3] [0] rfl rfl (by decide) (by decide) hk1 hFc hP1 hD1
  have hK := (hK.sub (tys' := []) [] rfl).app hK1
  generalize H1 = H at hP hS ⊢
  have hP : va_P (dC, dI) vwCl [(h0, .inr (12, [v0, .int ts, v2, v3, .int lf, v5, v6, v7, v8, v9, v10, .int ar, v12, v13, .int ct, .ref hQ])), (hQ, .inr (2, [.int sz1, k1, k2, k3, k4, k5, k6, k7, k8, k9, .ref hS1, .ref hB1, .int (nI (0 + 1))])), (hS1, .inl (cJ, 2, .inr (.inl s2))), (hB1, .inl (cB, 2, .inl b2))] H := hP
  have hD : va_D A [(h0, .inr (12, [v0, .int ts, v2, v3, .int lf, v5, v6, v7, v8, v9, v10, .int ar, v12, v13, .int ct, .ref hQ])), (hQ, .inr (2, [.int sz1, k1, k2, k3, k4, k5, k6, k7, k8, k9, .ref hS1, .ref hB1, .int (nI (0 + 1))])), (hS1, .inl (cJ, 2, .inr (.inl s2))), (hB1, .inl (cB, 2, .inl b2))] := hD
  have hK : va_K (dC, dI) vwCl [(cB, .byte), (cI, .int), (cJ, .long), (cZ, .boolean)] s := hK
  have er_1 : r_1 = thr 5 a b := hw
  rw [er_1]
  have hP9 := hP.sub (ws' := [(h0, .inr (12, [v0, .int ts, v2, v3, .int lf, v5, v6, v7, v8, v9, v10, .int ar, v12, v13, .int ct, .ref hQ])), (hQ, .inr (2, [.int sz1, k1, k2, k3, k4, k5, k6, k7, k8, k9, .ref hS1, .ref hB1, .int (nI (0 + 1))])), (hS1, .inl (cJ, 2, .inr (.inl s2))), (hB1, .inl (cB, 2, .inl b2))]) [0, 1, 2, 3] rfl
  have hD9 := hD.sub (ws' := [(h0, .inr (12, [v0, .int ts, v2, v3, .int lf, v5, v6, v7, v8, v9, v10, .int ar, v12, v13, .int ct, .ref hQ])), (hQ, .inr (2, [.int sz1, k1, k2, k3, k4, k5, k6, k7, k8, k9, .ref hS1, .ref hB1, .int (nI (0 + 1))])), (hS1, .inl (cJ, 2, .inr (.inl s2))), (hB1, .inl (cB, 2, .inl b2))]) [0, 1, 2, 3] (by decide) rfl
  have hK9 := hK.sub (tys' := [(cB, .byte), (cI, .int), (cJ, .long), (cZ, .boolean)]) [0, 1, 2, 3] rfl
  exact W.iret (v := (thr 5 a b)) hx hb hr (fun t_ ht hW => ⟨⟨(thr 5 a b), (s2, b2), rfl, rfl, by rw [ht]; exact hP9, va_K.moved hW.alike hK9, hD9⟩, hS.F ht⟩) hS.2.2 dX11_three_111
abbrev cs_t_three_o (cB cI cJ cZ : ClassId) (h0 hQ hS1 hB1 : Nat) (sz1 : Int32) (k1 k2 k3 k4 k5 k6 k7 k8 k9 : Value) (sf : Nat → Int64) (bf : Nat → Int32) (tq : Int32) (v0 v2 v3 v5 v6 v7 v8 v9 v10 v12 v13 : Value) (ts lf ar ct : Int32) (x a b : Int32) : va_W := [(h0, .inr (12, [v0, .int ts, v2, v3, .int lf, v5, v6, v7, v8, v9, v10, .int ar, v12, v13, .int ct, .ref hQ])), (hQ, .inr (2, [.int sz1, k1, k2, k3, k4, k5, k6, k7, k8, k9, .ref hS1, .ref hB1, .int tq])), (hS1, .inl (cJ, 2, .inr (.inl sf))), (hB1, .inl (cB, 2, .inl bf))]
abbrev pc_t_three_o (dC : Nat → ClassId) (dI : Nat → Nat → Nat) (sz : Nat) (cB cI cJ cZ : ClassId) (h0 hQ hS1 hB1 : Nat) (sz1 : Int32) (k1 k2 k3 k4 k5 k6 k7 k8 k9 : Value) (sf : Nat → Int64) (bf : Nat → Int32) (tq : Int32) (v0 v2 v3 v5 v6 v7 v8 v9 v10 v12 v13 : Value) (ts lf ar ct : Int32) (x a b : Int32) : Array Value → State → Prop := va_Pc [.ref h0, .int x, .int a, .int b] (fun U => U.heap.size = sz ∧ va_P (dC, dI) vwCl [(h0, .inr (12, [v0, .int ts, v2, v3, .int lf, v5, v6, v7, v8, v9, v10, .int ar, v12, v13, .int ct, .ref hQ])), (hQ, .inr (2, [.int sz1, k1, k2, k3, k4, k5, k6, k7, k8, k9, .ref hS1, .ref hB1, .int tq])), (hS1, .inl (cJ, 2, .inr (.inl sf))), (hB1, .inl (cB, 2, .inl bf))] U.heap ∧ va_K (dC, dI) vwCl [(cB, .byte), (cI, .int), (cJ, .long), (cZ, .boolean)] U ∧ va_D (fun _ => True) [(h0, .inr (12, [v0, .int ts, v2, v3, .int lf, v5, v6, v7, v8, v9, v10, .int ar, v12, v13, .int ct, .ref hQ])), (hQ, .inr (2, [.int sz1, k1, k2, k3, k4, k5, k6, k7, k8, k9, .ref hS1, .ref hB1, .int tq])), (hS1, .inl (cJ, 2, .inr (.inl sf))), (hB1, .inl (cB, 2, .inl bf))])
abbrev qc_t_three_o (dC : Nat → ClassId) (dI : Nat → Nat → Nat) (cB cI cJ cZ : ClassId) (h0 hQ hS1 hB1 : Nat) (sz1 : Int32) (k1 k2 k3 k4 k5 k6 k7 k8 k9 : Value) (sf : Nat → Int64) (bf : Nat → Int32) (tq : Int32) (v0 v2 v3 v5 v6 v7 v8 v9 v10 v12 v13 : Value) (ts lf ar ct : Int32) (x a b : Int32) (A : Nat → Prop) : Array Value → State → Outcome → State → Prop := va_Qi (fun (r : Int32) (u : Unit) => match u with | _ => r = -2) (fun (u : Unit) t_ => match u with | _ => va_P (dC, dI) vwCl [(h0, .inr (12, [v0, .int ts, v2, v3, .int lf, v5, v6, v7, v8, v9, v10, .int ar, v12, v13, .int ct, .ref hQ])), (hQ, .inr (2, [.int sz1, k1, k2, k3, k4, k5, k6, k7, k8, k9, .ref hS1, .ref hB1, .int tq])), (hS1, .inl (cJ, 2, .inr (.inl sf))), (hB1, .inl (cB, 2, .inl bf))] t_.heap ∧ va_K (dC, dI) vwCl [(cB, .byte), (cI, .int), (cJ, .long), (cZ, .boolean)] t_ ∧ va_D A [(h0, .inr (12, [v0, .int ts, v2, v3, .int lf, v5, v6, v7, v8, v9, v10, .int ar, v12, v13, .int ct, .ref hQ])), (hQ, .inr (2, [.int sz1, k1, k2, k3, k4, k5, k6, k7, k8, k9, .ref hS1, .ref hB1, .int tq])), (hS1, .inl (cJ, 2, .inr (.inl sf))), (hB1, .inl (cB, 2, .inl bf))]) A
set_option maxHeartbeats 4000000 in
set_option maxRecDepth 100000 in
theorem t_three_o (l : Launch) (dC : Nat → ClassId) (dI : Nat → Nat → Nat) (sz : Nat) (cB cI cJ cZ : ClassId) (h0 hQ hS1 hB1 : Nat) (sz1 : Int32) (k1 k2 k3 k4 k5 k6 k7 k8 k9 : Value) (sf : Nat → Int64) (bf : Nat → Int32) (tq : Int32) (v0 v2 v3 v5 v6 v7 v8 v9 v10 v12 v13 : Value) (ts lf ar ct : Int32) (x a b : Int32) (ho : x.toInt < 0 ∨ 5 < x.toInt) : Met l yX11_three (wsOf yX11_three cX11_three 4 (some .int)) ({ frames := 0, cells := 0, slots := 0, locals := 0 }) (pc_t_three_o dC dI sz cB cI cJ cZ h0 hQ hS1 hB1 sz1 k1 k2 k3 k4 k5 k6 k7 k8 k9 sf bf tq v0 v2 v3 v5 v6 v7 v8 v9 v10 v12 v13 ts lf ar ct x a b) (qc_t_three_o dC dI cB cI cJ cZ h0 hQ hS1 hB1 sz1 k1 k2 k3 k4 k5 k6 k7 k8 k9 sf bf tq v0 v2 v3 v5 v6 v7 v8 v9 v10 v12 v13 ts lf ar ct x a b (va_A (cs_t_three_o cB cI cJ cZ h0 hQ hS1 hB1 sz1 k1 k2 k3 k4 k5 k6 k7 k8 k9 sf bf tq v0 v2 v3 v5 v6 v7 v8 v9 v10 v12 v13 ts lf ar ct x a b) sz)) 0 0 (va_A (cs_t_three_o cB cI cJ cZ h0 hQ hS1 hB1 sz1 k1 k2 k3 k4 k5 k6 k7 k8 k9 sf bf tq v0 v2 v3 v5 v6 v7 v8 v9 v10 v12 v13 ts lf ar ct x a b) sz) := by
  refine Met.ofW (cc := cX11_three) (maxL := 4) (ret := (some .int)) (by decide) rfl ?_
  intro p e s m args below meth c s₁ B hml hv
  obtain ⟨rfl, hsz, hP, hK, hD0⟩ := hv
  have hx := B.exec
  have hb := B.bytes
  have hr := B.returns
  have hts := atoms_spec (ws := (wsOf yX11_three cX11_three 4 (some .int))) B.pre
  have hown : s.vm.findClass RX11 = some m.cls := findClass_of_methodNamed B.named
  have hlocks := B.notSynchronized
  subst hsz
  have hD := hD0.self (sz := s.heap.size)
  generalize hAe : va_A (cs_t_three_o cB cI cJ cZ h0 hQ hS1 hB1 sz1 k1 k2 k3 k4 k5 k6 k7 k8 k9 sf bf tq v0 v2 v3 v5 v6 v7 v8 v9 v10 v12 v13 ts lf ar ct x a b) s.heap.size = A at hD ⊢
  have hA : ∀ q : Nat, s.heap.size ≤ q → A q := fun q h => by rw [← hAe]; exact Or.inr h
  have hS : va_S A s.heap s.heap [] := va_S.rf
  have hP : va_P (dC, dI) vwCl [(h0, .inr (12, [v0, .int ts, v2, v3, .int lf, v5, v6, v7, v8, v9, v10, .int ar, v12, v13, .int ct, .ref hQ])), (hQ, .inr (2, [.int sz1, k1, k2, k3, k4, k5, k6, k7, k8, k9, .ref hS1, .ref hB1, .int tq])), (hS1, .inl (cJ, 2, .inr (.inl sf))), (hB1, .inl (cB, 2, .inl bf))] s.heap := hP
  have hl := lv_entry ([.ref h0, .int x, .int a, .int b]) (n := 4) (Nat.le_of_ble_eq_true rfl)
  rw [lg_entry_eq]
  generalize (lg_sl ([.ref h0, .int x, .int a, .int b]) ++ List.replicate (4 - (lg_sl ([.ref h0, .int x, .int a, .int b])).length) Slot.unset).toArray = ls at hl ⊢
  have hl : lv_has ls 4 [(0, .ref h0), (1, .int x), (2, .int a), (3, .int b)] := hl
  refine lv_iload_n hx hb dX11_three_0 rfl (lv_at hl 1 rfl) ?_
  refine lv_tableOut (tgt := 112) hx hb dX11_three_1 ho (by decide) ?_
  refine lv_bipush (v := (-2)) hx hb dX11_three_112 (by decide) ?_
  have hP9 := hP.sub (ws' := [(h0, .inr (12, [v0, .int ts, v2, v3, .int lf, v5, v6, v7, v8, v9, v10, .int ar, v12, v13, .int ct, .ref hQ])), (hQ, .inr (2, [.int sz1, k1, k2, k3, k4, k5, k6, k7, k8, k9, .ref hS1, .ref hB1, .int tq])), (hS1, .inl (cJ, 2, .inr (.inl sf))), (hB1, .inl (cB, 2, .inl bf))]) [0, 1, 2, 3] rfl
  have hD9 := hD.sub (ws' := [(h0, .inr (12, [v0, .int ts, v2, v3, .int lf, v5, v6, v7, v8, v9, v10, .int ar, v12, v13, .int ct, .ref hQ])), (hQ, .inr (2, [.int sz1, k1, k2, k3, k4, k5, k6, k7, k8, k9, .ref hS1, .ref hB1, .int tq])), (hS1, .inl (cJ, 2, .inr (.inl sf))), (hB1, .inl (cB, 2, .inl bf))]) [0, 1, 2, 3] (by decide) rfl
  have hK9 := hK.sub (tys' := [(cB, .byte), (cI, .int), (cJ, .long), (cZ, .boolean)]) [0, 1, 2, 3] rfl
  exact W.iret (v := (-2)) hx hb hr (fun t_ ht hW => ⟨⟨(-2), (), rfl, rfl, by rw [ht]; exact hP9, va_K.moved hW.alike hK9, hD9⟩, hS.F ht⟩) hS.2.2 dX11_three_114
theorem dX12_both_0 : decode cX12_both 0 = .ok (.iload_n 0, 1) := by decide +kernel
theorem dX12_both_1 : decode cX12_both 1 = .ok (.ifCond .eq 7, 3) := by decide +kernel
theorem dX12_both_4 : decode cX12_both 4 = .ok (.iconst 0, 1) := by decide +kernel
theorem dX12_both_5 : decode cX12_both 5 = .ok (.goto 4, 3) := by decide +kernel
theorem dX12_both_8 : decode cX12_both 8 = .ok (.iconst 1, 1) := by decide +kernel
theorem dX12_both_9 : decode cX12_both 9 = .ok (.istore_n 3, 1) := by decide +kernel
theorem dX12_both_10 : decode cX12_both 10 = .ok (.iload_n 1, 1) := by decide +kernel
theorem dX12_both_11 : decode cX12_both 11 = .ok (.iload_n 3, 1) := by decide +kernel
theorem dX12_both_12 : decode cX12_both 12 = .ok (.if_icmp .eq 8, 3) := by decide +kernel
theorem dX12_both_15 : decode cX12_both 15 = .ok (.iload_n 2, 1) := by decide +kernel
theorem dX12_both_16 : decode cX12_both 16 = .ok (.iload_n 3, 1) := by decide +kernel
theorem dX12_both_17 : decode cX12_both 17 = .ok (.if_icmp .ne 7, 3) := by decide +kernel
theorem dX12_both_20 : decode cX12_both 20 = .ok (.iload_n 3, 1) := by decide +kernel
theorem dX12_both_21 : decode cX12_both 21 = .ok (.goto 20, 3) := by decide +kernel
theorem dX12_both_24 : decode cX12_both 24 = .ok (.iload_n 1, 1) := by decide +kernel
theorem dX12_both_25 : decode cX12_both 25 = .ok (.iconst 2, 1) := by decide +kernel
theorem dX12_both_26 : decode cX12_both 26 = .ok (.if_icmp .eq 8, 3) := by decide +kernel
theorem dX12_both_29 : decode cX12_both 29 = .ok (.iload_n 2, 1) := by decide +kernel
theorem dX12_both_30 : decode cX12_both 30 = .ok (.iconst 2, 1) := by decide +kernel
theorem dX12_both_31 : decode cX12_both 31 = .ok (.if_icmp .ne 7, 3) := by decide +kernel
theorem dX12_both_34 : decode cX12_both 34 = .ok (.iconst 2, 1) := by decide +kernel
theorem dX12_both_35 : decode cX12_both 35 = .ok (.goto 6, 3) := by decide +kernel
theorem dX12_both_38 : decode cX12_both 38 = .ok (.iconst 1, 1) := by decide +kernel
theorem dX12_both_39 : decode cX12_both 39 = .ok (.iload_n 3, 1) := by decide +kernel
theorem dX12_both_40 : decode cX12_both 40 = .ok (.isub, 1) := by decide +kernel
theorem dX12_both_41 : decode cX12_both 41 = .ok (.ireturn, 1) := by decide +kernel
abbrev cs_t_both_and (cB cI cJ cZ : ClassId) (a b : Int32) : va_W := []
abbrev pc_t_both_and (dC : Nat → ClassId) (dI : Nat → Nat → Nat) (sz : Nat) (cB cI cJ cZ : ClassId) (a b : Int32) : Array Value → State → Prop := va_Pc [.int 1, .int a, .int b] (fun U => U.heap.size = sz ∧ va_P (dC, dI) vwCl [] U.heap ∧ va_K (dC, dI) vwCl [(cB, .byte), (cI, .int), (cJ, .long), (cZ, .boolean)] U ∧ va_D (fun _ => True) [])
abbrev qc_t_both_and (dC : Nat → ClassId) (dI : Nat → Nat → Nat) (cB cI cJ cZ : ClassId) (a b : Int32) (A : Nat → Prop) : Array Value → State → Outcome → State → Prop := va_Qi (fun (r : Int32) (u : Unit) => match u with | _ => r = bo 0 a b) (fun (u : Unit) t_ => match u with | _ => va_P (dC, dI) vwCl [] t_.heap ∧ va_K (dC, dI) vwCl [(cB, .byte), (cI, .int), (cJ, .long), (cZ, .boolean)] t_ ∧ va_D A []) A
set_option maxHeartbeats 4000000 in
set_option maxRecDepth 100000 in
theorem t_both_and (l : Launch) (dC : Nat → ClassId) (dI : Nat → Nat → Nat) (sz : Nat) (cB cI cJ cZ : ClassId) (a b : Int32)  : Met l yX12_both (wsOf yX12_both cX12_both 4 (some .int)) ({ frames := 0, cells := 0, slots := 0, locals := 0 }) (pc_t_both_and dC dI sz cB cI cJ cZ a b) (qc_t_both_and dC dI cB cI cJ cZ a b (va_A (cs_t_both_and cB cI cJ cZ a b) sz)) 0 0 (va_A (cs_t_both_and cB cI cJ cZ a b) sz) := by
  refine Met.ofW (cc := cX12_both) (maxL := 4) (ret := (some .int)) (by decide) rfl ?_
  intro p e s m args below meth c s₁ B hml hv
  obtain ⟨rfl, hsz, hP, hK, hD0⟩ := hv
  have hx := B.exec
  have hb := B.bytes
  have hr := B.returns
  have hts := atoms_spec (ws := (wsOf yX12_both cX12_both 4 (some .int))) B.pre
  have hown : s.vm.findClass RX12 = some m.cls := findClass_of_methodNamed B.named
  have hlocks := B.notSynchronized
  subst hsz
  have hD := hD0.self (sz := s.heap.size)
  generalize hAe : va_A (cs_t_both_and cB cI cJ cZ a b) s.heap.size = A at hD ⊢
  have hA : ∀ q : Nat, s.heap.size ≤ q → A q := fun q h => by rw [← hAe]; exact Or.inr h
  have hS : va_S A s.heap s.heap [] := va_S.rf
  have hP : va_P (dC, dI) vwCl [] s.heap := hP
  have hl := lv_entry ([.int 1, .int a, .int b]) (n := 4) (Nat.le_of_ble_eq_true rfl)
  rw [lg_entry_eq]
  generalize (lg_sl ([.int 1, .int a, .int b]) ++ List.replicate (4 - (lg_sl ([.int 1, .int a, .int b])).length) Slot.unset).toArray = ls at hl ⊢
  have hl : lv_has ls 4 [(0, .int 1), (1, .int a), (2, .int b)] := hl
  refine lv_iload_n hx hb dX12_both_0 rfl (lv_at hl 0 rfl) ?_
  refine lv_if_eq (tgt := 8) hx hb dX12_both_1 (by decide) (fun c_1 => ?_) (fun c_1 => ?_)
  · skip
    exact absurd c_1 (by decide)
  · skip
    refine lv_iconst (v := 0) hx hb dX12_both_4 (by decide) ?_
    refine lv_goto (tgt := 9) hx hb dX12_both_5 (by decide) ?_
    refine lv_istore_n (lv' := [(3, .int 0), (0, .int 1), (1, .int a), (2, .int b)]) hx hb dX12_both_9 rfl hl (by decide) rfl (fun ls hl => ?_)
    refine lv_iload_n hx hb dX12_both_10 rfl (lv_at hl 2 rfl) ?_
    refine lv_iload_n hx hb dX12_both_11 rfl (lv_at hl 0 rfl) ?_
    refine lv_icmp_eq (tgt := 20) hx hb dX12_both_12 (by decide) (fun c_2 => ?_) (fun c_2 => ?_)
    · skip
      refine lv_iload_n hx hb dX12_both_20 rfl (lv_at hl 0 rfl) ?_
      refine lv_goto (tgt := 41) hx hb dX12_both_21 (by decide) ?_
      have hP9 := hP.sub (ws' := []) [] rfl
      have hD9 := hD.sub (ws' := []) [] (by decide) rfl
      have hK9 := hK.sub (tys' := [(cB, .byte), (cI, .int), (cJ, .long), (cZ, .boolean)]) [0, 1, 2, 3] rfl
      exact W.iret (v := 0) hx hb hr (fun t_ ht hW => ⟨⟨0, (), rfl, by unfold bo; rw [if_pos c_2], by rw [ht]; exact hP9, va_K.moved hW.alike hK9, hD9⟩, hS.F ht⟩) hS.2.2 dX12_both_41
    · skip
      refine lv_iload_n hx hb dX12_both_15 rfl (lv_at hl 3 rfl) ?_
      refine lv_iload_n hx hb dX12_both_16 rfl (lv_at hl 0 rfl) ?_
      refine lv_icmp_ne (tgt := 24) hx hb dX12_both_17 (by decide) (fun c_3 => ?_) (fun c_3 => ?_)
      · skip
        refine lv_iload_n hx hb dX12_both_24 rfl (lv_at hl 2 rfl) ?_
        refine lv_iconst (v := 2) hx hb dX12_both_25 (by decide) ?_
        refine lv_icmp_eq (tgt := 34) hx hb dX12_both_26 (by decide) (fun c_4 => ?_) (fun c_4 => ?_)
        · skip
          refine lv_iconst (v := 2) hx hb dX12_both_34 (by decide) ?_
          refine lv_goto (tgt := 41) hx hb dX12_both_35 (by decide) ?_
          have hP9 := hP.sub (ws' := []) [] rfl
          have hD9 := hD.sub (ws' := []) [] (by decide) rfl
          have hK9 := hK.sub (tys' := [(cB, .byte), (cI, .int), (cJ, .long), (cZ, .boolean)]) [0, 1, 2, 3] rfl
          exact W.iret (v := 2) hx hb hr (fun t_ ht hW => ⟨⟨2, (), rfl, by unfold bo; rw [if_neg c_2, if_neg c_3, if_pos c_4], by rw [ht]; exact hP9, va_K.moved hW.alike hK9, hD9⟩, hS.F ht⟩) hS.2.2 dX12_both_41
        · skip
          refine lv_iload_n hx hb dX12_both_29 rfl (lv_at hl 3 rfl) ?_
          refine lv_iconst (v := 2) hx hb dX12_both_30 (by decide) ?_
          refine lv_icmp_ne (tgt := 38) hx hb dX12_both_31 (by decide) (fun c_5 => ?_) (fun c_5 => ?_)
          · skip
            refine lv_iconst (v := 1) hx hb dX12_both_38 (by decide) ?_
            refine lv_iload_n hx hb dX12_both_39 rfl (lv_at hl 0 rfl) ?_
            refine lv_isub hx hb dX12_both_40 ?_
            refine lv_topi (fun x_6 ex_6 => ?_)
            have ex_6 : x_6 = 1 := ex_6.trans (by decide)
            subst ex_6
            have hP9 := hP.sub (ws' := []) [] rfl
            have hD9 := hD.sub (ws' := []) [] (by decide) rfl
            have hK9 := hK.sub (tys' := [(cB, .byte), (cI, .int), (cJ, .long), (cZ, .boolean)]) [0, 1, 2, 3] rfl
            exact W.iret (v := 1) hx hb hr (fun t_ ht hW => ⟨⟨1, (), rfl, by unfold bo; rw [if_neg c_2, if_neg c_3, if_neg c_4, if_neg c_5] <;> rfl, by rw [ht]; exact hP9, va_K.moved hW.alike hK9, hD9⟩, hS.F ht⟩) hS.2.2 dX12_both_41
          · skip
            refine lv_iconst (v := 2) hx hb dX12_both_34 (by decide) ?_
            refine lv_goto (tgt := 41) hx hb dX12_both_35 (by decide) ?_
            have hP9 := hP.sub (ws' := []) [] rfl
            have hD9 := hD.sub (ws' := []) [] (by decide) rfl
            have hK9 := hK.sub (tys' := [(cB, .byte), (cI, .int), (cJ, .long), (cZ, .boolean)]) [0, 1, 2, 3] rfl
            exact W.iret (v := 2) hx hb hr (fun t_ ht hW => ⟨⟨2, (), rfl, by unfold bo; rw [if_neg c_2, if_neg c_3, if_neg c_4, if_pos c_5], by rw [ht]; exact hP9, va_K.moved hW.alike hK9, hD9⟩, hS.F ht⟩) hS.2.2 dX12_both_41
      · skip
        refine lv_iload_n hx hb dX12_both_20 rfl (lv_at hl 0 rfl) ?_
        refine lv_goto (tgt := 41) hx hb dX12_both_21 (by decide) ?_
        have hP9 := hP.sub (ws' := []) [] rfl
        have hD9 := hD.sub (ws' := []) [] (by decide) rfl
        have hK9 := hK.sub (tys' := [(cB, .byte), (cI, .int), (cJ, .long), (cZ, .boolean)]) [0, 1, 2, 3] rfl
        exact W.iret (v := 0) hx hb hr (fun t_ ht hW => ⟨⟨0, (), rfl, by unfold bo; rw [if_neg c_2, if_pos c_3], by rw [ht]; exact hP9, va_K.moved hW.alike hK9, hD9⟩, hS.F ht⟩) hS.2.2 dX12_both_41
abbrev cs_t_both_or (cB cI cJ cZ : ClassId) (a b : Int32) : va_W := []
abbrev pc_t_both_or (dC : Nat → ClassId) (dI : Nat → Nat → Nat) (sz : Nat) (cB cI cJ cZ : ClassId) (a b : Int32) : Array Value → State → Prop := va_Pc [.int 0, .int a, .int b] (fun U => U.heap.size = sz ∧ va_P (dC, dI) vwCl [] U.heap ∧ va_K (dC, dI) vwCl [(cB, .byte), (cI, .int), (cJ, .long), (cZ, .boolean)] U ∧ va_D (fun _ => True) [])
abbrev qc_t_both_or (dC : Nat → ClassId) (dI : Nat → Nat → Nat) (cB cI cJ cZ : ClassId) (a b : Int32) (A : Nat → Prop) : Array Value → State → Outcome → State → Prop := va_Qi (fun (r : Int32) (u : Unit) => match u with | _ => r = bo 1 a b) (fun (u : Unit) t_ => match u with | _ => va_P (dC, dI) vwCl [] t_.heap ∧ va_K (dC, dI) vwCl [(cB, .byte), (cI, .int), (cJ, .long), (cZ, .boolean)] t_ ∧ va_D A []) A
set_option maxHeartbeats 4000000 in
set_option maxRecDepth 100000 in
theorem t_both_or (l : Launch) (dC : Nat → ClassId) (dI : Nat → Nat → Nat) (sz : Nat) (cB cI cJ cZ : ClassId) (a b : Int32)  : Met l yX12_both (wsOf yX12_both cX12_both 4 (some .int)) ({ frames := 0, cells := 0, slots := 0, locals := 0 }) (pc_t_both_or dC dI sz cB cI cJ cZ a b) (qc_t_both_or dC dI cB cI cJ cZ a b (va_A (cs_t_both_or cB cI cJ cZ a b) sz)) 0 0 (va_A (cs_t_both_or cB cI cJ cZ a b) sz) := by
  refine Met.ofW (cc := cX12_both) (maxL := 4) (ret := (some .int)) (by decide) rfl ?_
  intro p e s m args below meth c s₁ B hml hv
  obtain ⟨rfl, hsz, hP, hK, hD0⟩ := hv
  have hx := B.exec
  have hb := B.bytes
  have hr := B.returns
  have hts := atoms_spec (ws := (wsOf yX12_both cX12_both 4 (some .int))) B.pre
  have hown : s.vm.findClass RX12 = some m.cls := findClass_of_methodNamed B.named
  have hlocks := B.notSynchronized
  subst hsz
  have hD := hD0.self (sz := s.heap.size)
  generalize hAe : va_A (cs_t_both_or cB cI cJ cZ a b) s.heap.size = A at hD ⊢
  have hA : ∀ q : Nat, s.heap.size ≤ q → A q := fun q h => by rw [← hAe]; exact Or.inr h
  have hS : va_S A s.heap s.heap [] := va_S.rf
  have hP : va_P (dC, dI) vwCl [] s.heap := hP
  have hl := lv_entry ([.int 0, .int a, .int b]) (n := 4) (Nat.le_of_ble_eq_true rfl)
  rw [lg_entry_eq]
  generalize (lg_sl ([.int 0, .int a, .int b]) ++ List.replicate (4 - (lg_sl ([.int 0, .int a, .int b])).length) Slot.unset).toArray = ls at hl ⊢
  have hl : lv_has ls 4 [(0, .int 0), (1, .int a), (2, .int b)] := hl
  refine lv_iload_n hx hb dX12_both_0 rfl (lv_at hl 0 rfl) ?_
  refine lv_if_eq (tgt := 8) hx hb dX12_both_1 (by decide) (fun c_1 => ?_) (fun c_1 => ?_)
  · skip
    refine lv_iconst (v := 1) hx hb dX12_both_8 (by decide) ?_
    refine lv_istore_n (lv' := [(3, .int 1), (0, .int 0), (1, .int a), (2, .int b)]) hx hb dX12_both_9 rfl hl (by decide) rfl (fun ls hl => ?_)
    refine lv_iload_n hx hb dX12_both_10 rfl (lv_at hl 2 rfl) ?_
    refine lv_iload_n hx hb dX12_both_11 rfl (lv_at hl 0 rfl) ?_
    refine lv_icmp_eq (tgt := 20) hx hb dX12_both_12 (by decide) (fun c_2 => ?_) (fun c_2 => ?_)
    · skip
      refine lv_iload_n hx hb dX12_both_20 rfl (lv_at hl 0 rfl) ?_
      refine lv_goto (tgt := 41) hx hb dX12_both_21 (by decide) ?_
      have hP9 := hP.sub (ws' := []) [] rfl
      have hD9 := hD.sub (ws' := []) [] (by decide) rfl
      have hK9 := hK.sub (tys' := [(cB, .byte), (cI, .int), (cJ, .long), (cZ, .boolean)]) [0, 1, 2, 3] rfl
      exact W.iret (v := 1) hx hb hr (fun t_ ht hW => ⟨⟨1, (), rfl, by unfold bo; rw [if_pos c_2], by rw [ht]; exact hP9, va_K.moved hW.alike hK9, hD9⟩, hS.F ht⟩) hS.2.2 dX12_both_41
    · skip
      refine lv_iload_n hx hb dX12_both_15 rfl (lv_at hl 3 rfl) ?_
      refine lv_iload_n hx hb dX12_both_16 rfl (lv_at hl 0 rfl) ?_
      refine lv_icmp_ne (tgt := 24) hx hb dX12_both_17 (by decide) (fun c_3 => ?_) (fun c_3 => ?_)
      · skip
        refine lv_iload_n hx hb dX12_both_24 rfl (lv_at hl 2 rfl) ?_
        refine lv_iconst (v := 2) hx hb dX12_both_25 (by decide) ?_
        refine lv_icmp_eq (tgt := 34) hx hb dX12_both_26 (by decide) (fun c_4 => ?_) (fun c_4 => ?_)
        · skip
          refine lv_iconst (v := 2) hx hb dX12_both_34 (by decide) ?_
          refine lv_goto (tgt := 41) hx hb dX12_both_35 (by decide) ?_
          have hP9 := hP.sub (ws' := []) [] rfl
          have hD9 := hD.sub (ws' := []) [] (by decide) rfl
          have hK9 := hK.sub (tys' := [(cB, .byte), (cI, .int), (cJ, .long), (cZ, .boolean)]) [0, 1, 2, 3] rfl
          exact W.iret (v := 2) hx hb hr (fun t_ ht hW => ⟨⟨2, (), rfl, by unfold bo; rw [if_neg c_2, if_neg c_3, if_pos c_4], by rw [ht]; exact hP9, va_K.moved hW.alike hK9, hD9⟩, hS.F ht⟩) hS.2.2 dX12_both_41
        · skip
          refine lv_iload_n hx hb dX12_both_29 rfl (lv_at hl 3 rfl) ?_
          refine lv_iconst (v := 2) hx hb dX12_both_30 (by decide) ?_
          refine lv_icmp_ne (tgt := 38) hx hb dX12_both_31 (by decide) (fun c_5 => ?_) (fun c_5 => ?_)
          · skip
            refine lv_iconst (v := 1) hx hb dX12_both_38 (by decide) ?_
            refine lv_iload_n hx hb dX12_both_39 rfl (lv_at hl 0 rfl) ?_
            refine lv_isub hx hb dX12_both_40 ?_
            refine lv_topi (fun x_6 ex_6 => ?_)
            have ex_6 : x_6 = 0 := ex_6.trans (by decide)
            subst ex_6
            have hP9 := hP.sub (ws' := []) [] rfl
            have hD9 := hD.sub (ws' := []) [] (by decide) rfl
            have hK9 := hK.sub (tys' := [(cB, .byte), (cI, .int), (cJ, .long), (cZ, .boolean)]) [0, 1, 2, 3] rfl
            exact W.iret (v := 0) hx hb hr (fun t_ ht hW => ⟨⟨0, (), rfl, by unfold bo; rw [if_neg c_2, if_neg c_3, if_neg c_4, if_neg c_5] <;> rfl, by rw [ht]; exact hP9, va_K.moved hW.alike hK9, hD9⟩, hS.F ht⟩) hS.2.2 dX12_both_41
          · skip
            refine lv_iconst (v := 2) hx hb dX12_both_34 (by decide) ?_
            refine lv_goto (tgt := 41) hx hb dX12_both_35 (by decide) ?_
            have hP9 := hP.sub (ws' := []) [] rfl
            have hD9 := hD.sub (ws' := []) [] (by decide) rfl
            have hK9 := hK.sub (tys' := [(cB, .byte), (cI, .int), (cJ, .long), (cZ, .boolean)]) [0, 1, 2, 3] rfl
            exact W.iret (v := 2) hx hb hr (fun t_ ht hW => ⟨⟨2, (), rfl, by unfold bo; rw [if_neg c_2, if_neg c_3, if_neg c_4, if_pos c_5], by rw [ht]; exact hP9, va_K.moved hW.alike hK9, hD9⟩, hS.F ht⟩) hS.2.2 dX12_both_41
      · skip
        refine lv_iload_n hx hb dX12_both_20 rfl (lv_at hl 0 rfl) ?_
        refine lv_goto (tgt := 41) hx hb dX12_both_21 (by decide) ?_
        have hP9 := hP.sub (ws' := []) [] rfl
        have hD9 := hD.sub (ws' := []) [] (by decide) rfl
        have hK9 := hK.sub (tys' := [(cB, .byte), (cI, .int), (cJ, .long), (cZ, .boolean)]) [0, 1, 2, 3] rfl
        exact W.iret (v := 1) hx hb hr (fun t_ ht hW => ⟨⟨1, (), rfl, by unfold bo; rw [if_neg c_2, if_pos c_3], by rw [ht]; exact hP9, va_K.moved hW.alike hK9, hD9⟩, hS.F ht⟩) hS.2.2 dX12_both_41
  · skip
    exact absurd c_1 (by decide)
theorem dX12_three_0 : decode cX12_three 0 = .ok (.iload_n 2, 1) := by decide +kernel
theorem dX12_three_1 : decode cX12_three 1 = .ok (.ifCond .eq 8, 3) := by decide +kernel
theorem dX12_three_4 : decode cX12_three 4 = .ok (.iload_n 2, 1) := by decide +kernel
theorem dX12_three_5 : decode cX12_three 5 = .ok (.iconst 1, 1) := by decide +kernel
theorem dX12_three_6 : decode cX12_three 6 = .ok (.if_icmp .ne 7, 3) := by decide +kernel
theorem dX12_three_9 : decode cX12_three 9 = .ok (.iload_n 2, 1) := by decide +kernel
theorem dX12_three_10 : decode cX12_three 10 = .ok (.goto 4, 3) := by decide +kernel
theorem dX12_three_13 : decode cX12_three 13 = .ok (.iconst 2, 1) := by decide +kernel
theorem dX12_three_14 : decode cX12_three 14 = .ok (.istore 4, 2) := by decide +kernel
theorem dX12_three_16 : decode cX12_three 16 = .ok (.iload_n 3, 1) := by decide +kernel
theorem dX12_three_17 : decode cX12_three 17 = .ok (.ifCond .eq 8, 3) := by decide +kernel
theorem dX12_three_20 : decode cX12_three 20 = .ok (.iload_n 3, 1) := by decide +kernel
theorem dX12_three_21 : decode cX12_three 21 = .ok (.iconst 1, 1) := by decide +kernel
theorem dX12_three_22 : decode cX12_three 22 = .ok (.if_icmp .ne 7, 3) := by decide +kernel
theorem dX12_three_25 : decode cX12_three 25 = .ok (.iload_n 3, 1) := by decide +kernel
theorem dX12_three_26 : decode cX12_three 26 = .ok (.goto 4, 3) := by decide +kernel
theorem dX12_three_29 : decode cX12_three 29 = .ok (.iconst 2, 1) := by decide +kernel
theorem dX12_three_30 : decode cX12_three 30 = .ok (.istore 5, 2) := by decide +kernel
theorem dX12_three_32 : decode cX12_three 32 = .ok (.iload_n 1, 1) := by decide +kernel
theorem dX12_three_33 : decode cX12_three 33 = .ok (.ifCond .lt 8, 3) := by decide +kernel
theorem dX12_three_36 : decode cX12_three 36 = .ok (.iload_n 1, 1) := by decide +kernel
theorem dX12_three_37 : decode cX12_three 37 = .ok (.iconst 5, 1) := by decide +kernel
theorem dX12_three_38 : decode cX12_three 38 = .ok (.if_icmp .le 6, 3) := by decide +kernel
theorem dX12_three_41 : decode cX12_three 41 = .ok (.bipush (-2), 2) := by decide +kernel
theorem dX12_three_43 : decode cX12_three 43 = .ok (.ireturn, 1) := by decide +kernel
theorem dX12_three_44 : decode cX12_three 44 = .ok (.iload_n 1, 1) := by decide +kernel
theorem dX12_three_45 : decode cX12_three 45 = .ok (.iconst 1, 1) := by decide +kernel
theorem dX12_three_46 : decode cX12_three 46 = .ok (.if_icmp .gt 34, 3) := by decide +kernel
theorem dX12_three_49 : decode cX12_three 49 = .ok (.iload_n 1, 1) := by decide +kernel
theorem dX12_three_50 : decode cX12_three 50 = .ok (.ifCond .ne 7, 3) := by decide +kernel
theorem dX12_three_53 : decode cX12_three 53 = .ok (.iconst 1, 1) := by decide +kernel
theorem dX12_three_54 : decode cX12_three 54 = .ok (.goto 4, 3) := by decide +kernel
theorem dX12_three_57 : decode cX12_three 57 = .ok (.iconst 0, 1) := by decide +kernel
theorem dX12_three_58 : decode cX12_three 58 = .ok (.iload 4, 2) := by decide +kernel
theorem dX12_three_60 : decode cX12_three 60 = .ok (.iload 5, 2) := by decide +kernel
theorem dX12_three_62 : decode cX12_three 62 = .ok (.invokestatic 631, 3) := by decide +kernel
theorem dX12_three_65 : decode cX12_three 65 = .ok (.istore 6, 2) := by decide +kernel
theorem dX12_three_67 : decode cX12_three 67 = .ok (.iload 6, 2) := by decide +kernel
theorem dX12_three_69 : decode cX12_three 69 = .ok (.iconst 2, 1) := by decide +kernel
theorem dX12_three_70 : decode cX12_three 70 = .ok (.if_icmp .ne 7, 3) := by decide +kernel
theorem dX12_three_73 : decode cX12_three 73 = .ok (.iconst (-1), 1) := by decide +kernel
theorem dX12_three_74 : decode cX12_three 74 = .ok (.goto 5, 3) := by decide +kernel
theorem dX12_three_77 : decode cX12_three 77 = .ok (.iload 6, 2) := by decide +kernel
theorem dX12_three_79 : decode cX12_three 79 = .ok (.ireturn, 1) := by decide +kernel
theorem dX12_three_80 : decode cX12_three 80 = .ok (.iload_n 1, 1) := by decide +kernel
theorem dX12_three_81 : decode cX12_three 81 = .ok (.iconst 2, 1) := by decide +kernel
theorem dX12_three_82 : decode cX12_three 82 = .ok (.if_icmp .ne 18, 3) := by decide +kernel
theorem dX12_three_85 : decode cX12_three 85 = .ok (.iload 4, 2) := by decide +kernel
theorem dX12_three_87 : decode cX12_three 87 = .ok (.iconst 2, 1) := by decide +kernel
theorem dX12_three_88 : decode cX12_three 88 = .ok (.if_icmp .ne 7, 3) := by decide +kernel
theorem dX12_three_91 : decode cX12_three 91 = .ok (.iconst (-1), 1) := by decide +kernel
theorem dX12_three_92 : decode cX12_three 92 = .ok (.goto 7, 3) := by decide +kernel
theorem dX12_three_95 : decode cX12_three 95 = .ok (.iconst 1, 1) := by decide +kernel
theorem dX12_three_96 : decode cX12_three 96 = .ok (.iload 4, 2) := by decide +kernel
theorem dX12_three_98 : decode cX12_three 98 = .ok (.isub, 1) := by decide +kernel
theorem dX12_three_99 : decode cX12_three 99 = .ok (.ireturn, 1) := by decide +kernel
theorem dX12_three_100 : decode cX12_three 100 = .ok (.iload 4, 2) := by decide +kernel
theorem dX12_three_102 : decode cX12_three 102 = .ok (.iconst 2, 1) := by decide +kernel
theorem dX12_three_103 : decode cX12_three 103 = .ok (.if_icmp .eq 9, 3) := by decide +kernel
theorem dX12_three_106 : decode cX12_three 106 = .ok (.iload 5, 2) := by decide +kernel
theorem dX12_three_108 : decode cX12_three 108 = .ok (.iconst 2, 1) := by decide +kernel
theorem dX12_three_109 : decode cX12_three 109 = .ok (.if_icmp .ne 5, 3) := by decide +kernel
theorem dX12_three_112 : decode cX12_three 112 = .ok (.iconst (-1), 1) := by decide +kernel
theorem dX12_three_113 : decode cX12_three 113 = .ok (.ireturn, 1) := by decide +kernel
theorem dX12_three_114 : decode cX12_three 114 = .ok (.iload_n 1, 1) := by decide +kernel
theorem dX12_three_115 : decode cX12_three 115 = .ok (.iconst 3, 1) := by decide +kernel
theorem dX12_three_116 : decode cX12_three 116 = .ok (.if_icmp .ne 18, 3) := by decide +kernel
theorem dX12_three_119 : decode cX12_three 119 = .ok (.iload 4, 2) := by decide +kernel
theorem dX12_three_121 : decode cX12_three 121 = .ok (.iload 5, 2) := by decide +kernel
theorem dX12_three_123 : decode cX12_three 123 = .ok (.if_icmp .ne 7, 3) := by decide +kernel
theorem dX12_three_126 : decode cX12_three 126 = .ok (.iconst 1, 1) := by decide +kernel
theorem dX12_three_127 : decode cX12_three 127 = .ok (.goto 32, 3) := by decide +kernel
theorem dX12_three_130 : decode cX12_three 130 = .ok (.iconst 0, 1) := by decide +kernel
theorem dX12_three_131 : decode cX12_three 131 = .ok (.goto 28, 3) := by decide +kernel
theorem dX12_three_134 : decode cX12_three 134 = .ok (.iload_n 1, 1) := by decide +kernel
theorem dX12_three_135 : decode cX12_three 135 = .ok (.iconst 4, 1) := by decide +kernel
theorem dX12_three_136 : decode cX12_three 136 = .ok (.if_icmp .ne 18, 3) := by decide +kernel
theorem dX12_three_139 : decode cX12_three 139 = .ok (.iload 4, 2) := by decide +kernel
theorem dX12_three_141 : decode cX12_three 141 = .ok (.iload 5, 2) := by decide +kernel
theorem dX12_three_143 : decode cX12_three 143 = .ok (.if_icmp .ge 7, 3) := by decide +kernel
theorem dX12_three_146 : decode cX12_three 146 = .ok (.iconst 1, 1) := by decide +kernel
theorem dX12_three_147 : decode cX12_three 147 = .ok (.goto 12, 3) := by decide +kernel
theorem dX12_three_150 : decode cX12_three 150 = .ok (.iconst 0, 1) := by decide +kernel
theorem dX12_three_151 : decode cX12_three 151 = .ok (.goto 8, 3) := by decide +kernel
theorem dX12_three_154 : decode cX12_three 154 = .ok (.iload 4, 2) := by decide +kernel
theorem dX12_three_156 : decode cX12_three 156 = .ok (.iload 5, 2) := by decide +kernel
theorem dX12_three_158 : decode cX12_three 158 = .ok (.iadd, 1) := by decide +kernel
theorem dX12_three_159 : decode cX12_three 159 = .ok (.ireturn, 1) := by decide +kernel
abbrev cs_t_mthree_0 (cB cI cJ cZ : ClassId) (h0 : Nat) (m1 : Nat → Nat) (f : Nat → Int32) (w : Int64) (a b : Int32) : va_W := [(h0, .inr (13, moF m1 f w))]
abbrev pc_t_mthree_0 (dC : Nat → ClassId) (dI : Nat → Nat → Nat) (sz : Nat) (cB cI cJ cZ : ClassId) (h0 : Nat) (m1 : Nat → Nat) (f : Nat → Int32) (w : Int64) (a b : Int32) : Array Value → State → Prop := va_Pc [.ref h0, .int 0, .int a, .int b] (fun U => U.heap.size = sz ∧ va_P (dC, dI) vwCl [(h0, .inr (13, moF m1 f w))] U.heap ∧ va_K (dC, dI) vwCl [(cB, .byte), (cI, .int), (cJ, .long), (cZ, .boolean)] U ∧ va_D (fun _ => True) [(h0, .inr (13, moF m1 f w))])
abbrev qc_t_mthree_0 (dC : Nat → ClassId) (dI : Nat → Nat → Nat) (cB cI cJ cZ : ClassId) (h0 : Nat) (m1 : Nat → Nat) (f : Nat → Int32) (w : Int64) (a b : Int32) (A : Nat → Prop) : Array Value → State → Outcome → State → Prop := va_Qi (fun (r : Int32) (u : Unit) => match u with | _ => r = thr 0 a b) (fun (u : Unit) t_ => match u with | _ => va_P (dC, dI) vwCl [(h0, .inr (13, moF m1 f w))] t_.heap ∧ va_K (dC, dI) vwCl [(cB, .byte), (cI, .int), (cJ, .long), (cZ, .boolean)] t_ ∧ va_D A [(h0, .inr (13, moF m1 f w))]) A
set_option maxHeartbeats 4000000 in
set_option maxRecDepth 100000 in
theorem t_mthree_0 (l : Launch) (dC : Nat → ClassId) (dI : Nat → Nat → Nat) (sz : Nat) (cB cI cJ cZ : ClassId) (h0 : Nat) (m1 : Nat → Nat) (f : Nat → Int32) (w : Int64) (a b : Int32)  : Met l yX12_three (wsOf yX12_three cX12_three 7 (some .int)) ({ frames := 1, cells := 0, slots := 0, locals := 23 }) (pc_t_mthree_0 dC dI sz cB cI cJ cZ h0 m1 f w a b) (qc_t_mthree_0 dC dI cB cI cJ cZ h0 m1 f w a b (va_A (cs_t_mthree_0 cB cI cJ cZ h0 m1 f w a b) sz)) 0 0 (va_A (cs_t_mthree_0 cB cI cJ cZ h0 m1 f w a b) sz) := by
  refine Met.ofW (cc := cX12_three) (maxL := 7) (ret := (some .int)) (by decide) rfl ?_
  intro p e s m args below meth c s₁ B hml hv
  obtain ⟨rfl, hsz, hP, hK, hD0⟩ := hv
  have hx := B.exec
  have hb := B.bytes
  have hr := B.returns
  have hts := atoms_spec (ws := (wsOf yX12_three cX12_three 7 (some .int))) B.pre
  have hown : s.vm.findClass RX12 = some m.cls := findClass_of_methodNamed B.named
  have hlocks := B.notSynchronized
  subst hsz
  have hD := hD0.self (sz := s.heap.size)
  generalize hAe : va_A (cs_t_mthree_0 cB cI cJ cZ h0 m1 f w a b) s.heap.size = A at hD ⊢
  have hA : ∀ q : Nat, s.heap.size ≤ q → A q := fun q h => by rw [← hAe]; exact Or.inr h
  have hS : va_S A s.heap s.heap [] := va_S.rf
  have hP : va_P (dC, dI) vwCl [(h0, .inr (13, moF m1 f w))] s.heap := hP
  have hl := lv_entry ([.ref h0, .int 0, .int a, .int b]) (n := 7) (Nat.le_of_ble_eq_true rfl)
  rw [lg_entry_eq]
  generalize (lg_sl ([.ref h0, .int 0, .int a, .int b]) ++ List.replicate (7 - (lg_sl ([.ref h0, .int 0, .int a, .int b])).length) Slot.unset).toArray = ls at hl ⊢
  have hl : lv_has ls 7 [(0, .ref h0), (1, .int 0), (2, .int a), (3, .int b)] := hl
  have mg_1 : ∀ (H : Heap) (locs : List Loc), va_P (dC, dI) vwCl [(h0, .inr (13, moF m1 f w))] H → va_D A [(h0, .inr (13, moF m1 f w))] → va_S A s.heap H locs → W p l e (headSpec (wsOf yX12_three cX12_three 7 (some .int)) ({ frames := 1, cells := 0, slots := 0, locals := 23 })).room s m ([.ref h0, .int 0, .int a, .int b] : List Value).toArray below meth c H locs 0 0 (MQ below (qc_t_mthree_0 dC dI cB cI cJ cZ h0 m1 f w a b A) ([.ref h0, .int 0, .int a, .int b] : List Value).toArray s 0 0 A) (F0 m 14 ls [.int (t3 a)]) := by
    intro H locs hP hD hS
    refine lv_istore (lv' := [(4, .int (t3 a)), (0, .ref h0), (1, .int 0), (2, .int a), (3, .int b)]) hx hb dX12_three_14 hl (by decide) rfl (fun ls hl => ?_)
    have mg_2 : ∀ (H : Heap) (locs : List Loc), va_P (dC, dI) vwCl [(h0, .inr (13, moF m1 f w))] H → va_D A [(h0, .inr (13, moF m1 f w))] → va_S A s.heap H locs → W p l e (headSpec (wsOf yX12_three cX12_three 7 (some .int)) ({ frames := 1, cells := 0, slots := 0, locals := 23 })).room s m ([.ref h0, .int 0, .int a, .int b] : List Value).toArray below meth c H locs 0 0 (MQ below (qc_t_mthree_0 dC dI cB cI cJ cZ h0 m1 f w a b A) ([.ref h0, .int 0, .int a, .int b] : List Value).toArray s 0 0 A) (F0 m 30 ls [.int (t3 b)]) := by
      intro H locs hP hD hS
      refine lv_istore (lv' := [(5, .int (t3 b)), (4, .int (t3 a)), (0, .ref h0), (1, .int 0), (2, .int a), (3, .int b)]) hx hb dX12_three_30 hl (by decide) rfl (fun ls hl => ?_)
      refine lv_iload_n hx hb dX12_three_32 rfl (lv_at hl 3 rfl) ?_
      refine lv_if_lt (tgt := 41) hx hb dX12_three_33 (by decide) (fun c_3 => ?_) (fun c_3 => ?_)
      · skip
        exact absurd c_3 (by decide)
      · skip
        refine lv_iload_n hx hb dX12_three_36 rfl (lv_at hl 3 rfl) ?_
        refine lv_iconst (v := 5) hx hb dX12_three_37 (by decide) ?_
        refine lv_icmp_le (tgt := 44) hx hb dX12_three_38 (by decide) (fun c_4 => ?_) (fun c_4 => ?_)
        · skip
          refine lv_iload_n hx hb dX12_three_44 rfl (lv_at hl 3 rfl) ?_
          refine lv_iconst (v := 1) hx hb dX12_three_45 (by decide) ?_
          refine lv_icmp_gt (tgt := 80) hx hb dX12_three_46 (by decide) (fun c_5 => ?_) (fun c_5 => ?_)
          · skip
            exact absurd c_5 (by decide)
          · skip
            refine lv_iload_n hx hb dX12_three_49 rfl (lv_at hl 3 rfl) ?_
            refine lv_if_ne (tgt := 57) hx hb dX12_three_50 (by decide) (fun c_6 => ?_) (fun c_6 => ?_)
            · skip
              exact absurd c_6 (by decide)
            · skip
              refine lv_iconst (v := 1) hx hb dX12_three_53 (by decide) ?_
              refine lv_goto (tgt := 58) hx hb dX12_three_54 (by decide) ?_
              refine lv_iload hx hb dX12_three_58 (lv_at hl 1 rfl) ?_
              refine lv_iload hx hb dX12_three_60 (lv_at hl 0 rfl) ?_
              have hPc := hP.sub (ws' := []) [] rfl
              have hDc := hD.sub (ws' := []) [] (by decide) rfl
              have hKc := hK.sub (tys' := [(cB, .byte), (cI, .int), (cJ, .long), (cZ, .boolean)]) [0, 1, 2, 3] rfl
              have hFc := va_free (wc := []) hD hS hA [] rfl
              refine va_calli (va_runS (As := [.int 1, .int (t3 a), .int (t3 b)]) (rest := []) ⟨hx, hb, hml, hown, hts⟩ (t_both_and l dC dI H.size cB cI cJ cZ (t3 a) (t3 b)) (cwS 3 hts (gd_all (in_S kw_2134 kw_2135 kw_191 kc_X12_both)) rfl rfl rfl (by decide +kernel) ⟨Nat.le_of_ble_eq_true rfl, Nat.le_of_ble_eq_true rfl⟩) ⟨fun a U g mk q => by obtain ⟨q0, q1, qP, qK, qD⟩ := q; exact ⟨q0, q1, qP, va_K.moved (u := U) (U := U.calling g mk a) (Vm.Alike.refl U.vm) qK, qD⟩, fun U hU hW => ⟨rfl, by rw [hU], by rw [hU]; exact hPc, va_K.moved hW.alike hKc, hDc.weaken (fun _ _ _ _ => trivial)⟩⟩ rfl rfl hl.1 rfl (lv_room (Nat.le_of_ble_eq_true rfl)) dX12_three_62 ⟨Nat.le_of_ble_eq_true rfl, Nat.le_of_ble_eq_true rfl⟩) hS (fun q _ h => hFc q h) hFc (fun r_7 u t_ H1 locs ht hvm hw hB hz1 hk1 hS => ?_)
              obtain ⟨hP1, hK1, hD1⟩ := hB
              rw [ht] at hP1
              have hK1 := va_K.moved hvm.symm hK1
              obtain ⟨hP, hD⟩ := va_join (wr := [(h0, .inr (13, moF m1 f w))]) (w1 := []) hP hD [] [0] rfl rfl (by decide) (by decide) hk1 hFc hP1 hD1
              have hK := (hK.sub (tys' := []) [] rfl).app hK1
              generalize H1 = H at hP hS ⊢
              have hP : va_P (dC, dI) vwCl [(h0, .inr (13, moF m1 f w))] H := hP
              have hD : va_D A [(h0, .inr (13, moF m1 f w))] := hD
              have hK : va_K (dC, dI) vwCl [(cB, .byte), (cI, .int), (cJ, .long), (cZ, .boolean)] s := hK
              have er_7 : r_7 = bo 0 (t3 a) (t3 b) := hw
              rw [er_7]
              refine lv_istore (lv' := [(6, .int (bo 0 (t3 a) (t3 b))), (5, .int (t3 b)), (4, .int (t3 a)), (0, .ref h0), (1, .int 0), (2, .int a), (3, .int b)]) hx hb dX12_three_65 hl (by decide) rfl (fun ls hl => ?_)
              refine lv_iload hx hb dX12_three_67 (lv_at hl 0 rfl) ?_
              refine lv_iconst (v := 2) hx hb dX12_three_69 (by decide) ?_
              refine lv_icmp_ne (tgt := 77) hx hb dX12_three_70 (by decide) (fun c_8 => ?_) (fun c_8 => ?_)
              · skip
                refine lv_iload hx hb dX12_three_77 (lv_at hl 0 rfl) ?_
                have hP9 := hP.sub (ws' := [(h0, .inr (13, moF m1 f w))]) [0] rfl
                have hD9 := hD.sub (ws' := [(h0, .inr (13, moF m1 f w))]) [0] (by decide) rfl
                have hK9 := hK.sub (tys' := [(cB, .byte), (cI, .int), (cJ, .long), (cZ, .boolean)]) [0, 1, 2, 3] rfl
                exact W.iret (v := (bo 0 (t3 a) (t3 b))) hx hb hr (fun t_ ht hW => ⟨⟨(bo 0 (t3 a) (t3 b)), (), rfl, by simp only [thr, n3, if_neg c_8], by rw [ht]; exact hP9, va_K.moved hW.alike hK9, hD9⟩, hS.F ht⟩) hS.2.2 dX12_three_79
              · skip
                refine lv_iconst (v := (-1)) hx hb dX12_three_73 (by decide) ?_
                refine lv_goto (tgt := 79) hx hb dX12_three_74 (by decide) ?_
                have hP9 := hP.sub (ws' := [(h0, .inr (13, moF m1 f w))]) [0] rfl
                have hD9 := hD.sub (ws' := [(h0, .inr (13, moF m1 f w))]) [0] (by decide) rfl
                have hK9 := hK.sub (tys' := [(cB, .byte), (cI, .int), (cJ, .long), (cZ, .boolean)]) [0, 1, 2, 3] rfl
                exact W.iret (v := (-1)) hx hb hr (fun t_ ht hW => ⟨⟨(-1), (), rfl, by simp only [thr, n3, if_pos c_8], by rw [ht]; exact hP9, va_K.moved hW.alike hK9, hD9⟩, hS.F ht⟩) hS.2.2 dX12_three_79
        · skip
          exact absurd c_4 (by decide)
    refine lv_iload_n hx hb dX12_three_16 rfl (lv_at hl 4 rfl) ?_
    refine lv_if_eq (tgt := 25) hx hb dX12_three_17 (by decide) (fun c_9 => ?_) (fun c_9 => ?_)
    · skip
      refine lv_iload_n hx hb dX12_three_25 rfl (lv_at hl 4 rfl) ?_
      refine lv_goto (tgt := 30) hx hb dX12_three_26 (by decide) ?_
      exact W.eq (by unfold t3; rw [if_pos c_9]) (mg_2 _ _ hP hD hS)
    · skip
      refine lv_iload_n hx hb dX12_three_20 rfl (lv_at hl 4 rfl) ?_
      refine lv_iconst (v := 1) hx hb dX12_three_21 (by decide) ?_
      refine lv_icmp_ne (tgt := 29) hx hb dX12_three_22 (by decide) (fun c_10 => ?_) (fun c_10 => ?_)
      · skip
        refine lv_iconst (v := 2) hx hb dX12_three_29 (by decide) ?_
        exact W.eq (by unfold t3; rw [if_neg c_9, if_neg c_10]) (mg_2 _ _ hP hD hS)
      · skip
        refine lv_iload_n hx hb dX12_three_25 rfl (lv_at hl 4 rfl) ?_
        refine lv_goto (tgt := 30) hx hb dX12_three_26 (by decide) ?_
        exact W.eq (by unfold t3; rw [if_neg c_9, if_pos c_10]) (mg_2 _ _ hP hD hS)
  refine lv_iload_n hx hb dX12_three_0 rfl (lv_at hl 2 rfl) ?_
  refine lv_if_eq (tgt := 9) hx hb dX12_three_1 (by decide) (fun c_11 => ?_) (fun c_11 => ?_)
  · skip
    refine lv_iload_n hx hb dX12_three_9 rfl (lv_at hl 2 rfl) ?_
    refine lv_goto (tgt := 14) hx hb dX12_three_10 (by decide) ?_
    exact W.eq (by unfold t3; rw [if_pos c_11]) (mg_1 _ _ hP hD hS)
  · skip
    refine lv_iload_n hx hb dX12_three_4 rfl (lv_at hl 2 rfl) ?_
    refine lv_iconst (v := 1) hx hb dX12_three_5 (by decide) ?_
    refine lv_icmp_ne (tgt := 13) hx hb dX12_three_6 (by decide) (fun c_12 => ?_) (fun c_12 => ?_)
    · skip
      refine lv_iconst (v := 2) hx hb dX12_three_13 (by decide) ?_
      exact W.eq (by unfold t3; rw [if_neg c_11, if_neg c_12]) (mg_1 _ _ hP hD hS)
    · skip
      refine lv_iload_n hx hb dX12_three_9 rfl (lv_at hl 2 rfl) ?_
      refine lv_goto (tgt := 14) hx hb dX12_three_10 (by decide) ?_
      exact W.eq (by unfold t3; rw [if_neg c_11, if_pos c_12]) (mg_1 _ _ hP hD hS)
abbrev cs_t_mthree_1 (cB cI cJ cZ : ClassId) (h0 : Nat) (m1 : Nat → Nat) (f : Nat → Int32) (w : Int64) (a b : Int32) : va_W := [(h0, .inr (13, moF m1 f w))]
abbrev pc_t_mthree_1 (dC : Nat → ClassId) (dI : Nat → Nat → Nat) (sz : Nat) (cB cI cJ cZ : ClassId) (h0 : Nat) (m1 : Nat → Nat) (f : Nat → Int32) (w : Int64) (a b : Int32) : Array Value → State → Prop := va_Pc [.ref h0, .int 1, .int a, .int b] (fun U => U.heap.size = sz ∧ va_P (dC, dI) vwCl [(h0, .inr (13, moF m1 f w))] U.heap ∧ va_K (dC, dI) vwCl [(cB, .byte), (cI, .int), (cJ, .long), (cZ, .boolean)] U ∧ va_D (fun _ => True) [(h0, .inr (13, moF m1 f w))])
abbrev qc_t_mthree_1 (dC : Nat → ClassId) (dI : Nat → Nat → Nat) (cB cI cJ cZ : ClassId) (h0 : Nat) (m1 : Nat → Nat) (f : Nat → Int32) (w : Int64) (a b : Int32) (A : Nat → Prop) : Array Value → State → Outcome → State → Prop := va_Qi (fun (r : Int32) (u : Unit) => match u with | _ => r = thr 1 a b) (fun (u : Unit) t_ => match u with | _ => va_P (dC, dI) vwCl [(h0, .inr (13, moF m1 f w))] t_.heap ∧ va_K (dC, dI) vwCl [(cB, .byte), (cI, .int), (cJ, .long), (cZ, .boolean)] t_ ∧ va_D A [(h0, .inr (13, moF m1 f w))]) A
set_option maxHeartbeats 4000000 in
set_option maxRecDepth 100000 in
theorem t_mthree_1 (l : Launch) (dC : Nat → ClassId) (dI : Nat → Nat → Nat) (sz : Nat) (cB cI cJ cZ : ClassId) (h0 : Nat) (m1 : Nat → Nat) (f : Nat → Int32) (w : Int64) (a b : Int32)  : Met l yX12_three (wsOf yX12_three cX12_three 7 (some .int)) ({ frames := 1, cells := 0, slots := 0, locals := 23 }) (pc_t_mthree_1 dC dI sz cB cI cJ cZ h0 m1 f w a b) (qc_t_mthree_1 dC dI cB cI cJ cZ h0 m1 f w a b (va_A (cs_t_mthree_1 cB cI cJ cZ h0 m1 f w a b) sz)) 0 0 (va_A (cs_t_mthree_1 cB cI cJ cZ h0 m1 f w a b) sz) := by
  refine Met.ofW (cc := cX12_three) (maxL := 7) (ret := (some .int)) (by decide) rfl ?_
  intro p e s m args below meth c s₁ B hml hv
  obtain ⟨rfl, hsz, hP, hK, hD0⟩ := hv
  have hx := B.exec
  have hb := B.bytes
  have hr := B.returns
  have hts := atoms_spec (ws := (wsOf yX12_three cX12_three 7 (some .int))) B.pre
  have hown : s.vm.findClass RX12 = some m.cls := findClass_of_methodNamed B.named
  have hlocks := B.notSynchronized
  subst hsz
  have hD := hD0.self (sz := s.heap.size)
  generalize hAe : va_A (cs_t_mthree_1 cB cI cJ cZ h0 m1 f w a b) s.heap.size = A at hD ⊢
  have hA : ∀ q : Nat, s.heap.size ≤ q → A q := fun q h => by rw [← hAe]; exact Or.inr h
  have hS : va_S A s.heap s.heap [] := va_S.rf
  have hP : va_P (dC, dI) vwCl [(h0, .inr (13, moF m1 f w))] s.heap := hP
  have hl := lv_entry ([.ref h0, .int 1, .int a, .int b]) (n := 7) (Nat.le_of_ble_eq_true rfl)
  rw [lg_entry_eq]
  generalize (lg_sl ([.ref h0, .int 1, .int a, .int b]) ++ List.replicate (7 - (lg_sl ([.ref h0, .int 1, .int a, .int b])).length) Slot.unset).toArray = ls at hl ⊢
  have hl : lv_has ls 7 [(0, .ref h0), (1, .int 1), (2, .int a), (3, .int b)] := hl
  have mg_1 : ∀ (H : Heap) (locs : List Loc), va_P (dC, dI) vwCl [(h0, .inr (13, moF m1 f w))] H → va_D A [(h0, .inr (13, moF m1 f w))] → va_S A s.heap H locs → W p l e (headSpec (wsOf yX12_three cX12_three 7 (some .int)) ({ frames := 1, cells := 0, slots := 0, locals := 23 })).room s m ([.ref h0, .int 1, .int a, .int b] : List Value).toArray below meth c H locs 0 0 (MQ below (qc_t_mthree_1 dC dI cB cI cJ cZ h0 m1 f w a b A) ([.ref h0, .int 1, .int a, .int b] : List Value).toArray s 0 0 A) (F0 m 14 ls [.int (t3 a)]) := by
    intro H locs hP hD hS
    refine lv_istore (lv' := [(4, .int (t3 a)), (0, .ref h0), (1, .int 1), (2, .int a), (3, .int b)]) hx hb dX12_three_14 hl (by decide) rfl (fun ls hl => ?_)
    have mg_2 : ∀ (H : Heap) (locs : List Loc), va_P (dC, dI) vwCl [(h0, .inr (13, moF m1 f w))] H → va_D A [(h0, .inr (13, moF m1 f w))] → va_S A s.heap H locs → W p l e (headSpec (wsOf yX12_three cX12_three 7 (some .int)) ({ frames := 1, cells := 0, slots := 0, locals := 23 })).room s m ([.ref h0, .int 1, .int a, .int b] : List Value).toArray below meth c H locs 0 0 (MQ below (qc_t_mthree_1 dC dI cB cI cJ cZ h0 m1 f w a b A) ([.ref h0, .int 1, .int a, .int b] : List Value).toArray s 0 0 A) (F0 m 30 ls [.int (t3 b)]) := by
      intro H locs hP hD hS
      refine lv_istore (lv' := [(5, .int (t3 b)), (4, .int (t3 a)), (0, .ref h0), (1, .int 1), (2, .int a), (3, .int b)]) hx hb dX12_three_30 hl (by decide) rfl (fun ls hl => ?_)
      refine lv_iload_n hx hb dX12_three_32 rfl (lv_at hl 3 rfl) ?_
      refine lv_if_lt (tgt := 41) hx hb dX12_three_33 (by decide) (fun c_3 => ?_) (fun c_3 => ?_)
      · skip
        exact absurd c_3 (by decide)
      · skip
        refine lv_iload_n hx hb dX12_three_36 rfl (lv_at hl 3 rfl) ?_
        refine lv_iconst (v := 5) hx hb dX12_three_37 (by decide) ?_
        refine lv_icmp_le (tgt := 44) hx hb dX12_three_38 (by decide) (fun c_4 => ?_) (fun c_4 => ?_)
        · skip
          refine lv_iload_n hx hb dX12_three_44 rfl (lv_at hl 3 rfl) ?_
          refine lv_iconst (v := 1) hx hb dX12_three_45 (by decide) ?_
          refine lv_icmp_gt (tgt := 80) hx hb dX12_three_46 (by decide) (fun c_5 => ?_) (fun c_5 => ?_)
          · skip
            exact absurd c_5 (by decide)
          · skip
            refine lv_iload_n hx hb dX12_three_49 rfl (lv_at hl 3 rfl) ?_
            refine lv_if_ne (tgt := 57) hx hb dX12_three_50 (by decide) (fun c_6 => ?_) (fun c_6 => ?_)
            · skip
              refine lv_iconst (v := 0) hx hb dX12_three_57 (by decide) ?_
              refine lv_iload hx hb dX12_three_58 (lv_at hl 1 rfl) ?_
              refine lv_iload hx hb dX12_three_60 (lv_at hl 0 rfl) ?_
              have hPc := hP.sub (ws' := []) [] rfl
              have hDc := hD.sub (ws' := []) [] (by decide) rfl
              have hKc := hK.sub (tys' := [(cB, .byte), (cI, .int), (cJ, .long), (cZ, .boolean)]) [0, 1, 2, 3] rfl
              have hFc := va_free (wc := []) hD hS hA [] rfl
              refine va_calli (va_runS (As := [.int 0, .int (t3 a), .int (t3 b)]) (rest := []) ⟨hx, hb, hml, hown, hts⟩ (t_both_or l dC dI H.size cB cI cJ cZ (t3 a) (t3 b)) (cwS 3 hts (gd_all (in_S kw_2134 kw_2135 kw_191 kc_X12_both)) rfl rfl rfl (by decide +kernel) ⟨Nat.le_of_ble_eq_true rfl, Nat.le_of_ble_eq_true rfl⟩) ⟨fun a U g mk q => by obtain ⟨q0, q1, qP, qK, qD⟩ := q; exact ⟨q0, q1, qP, va_K.moved (u := U) (U := U.calling g mk a) (Vm.Alike.refl U.vm) qK, qD⟩, fun U hU hW => ⟨rfl, by rw [hU], by rw [hU]; exact hPc, va_K.moved hW.alike hKc, hDc.weaken (fun _ _ _ _ => trivial)⟩⟩ rfl rfl hl.1 rfl (lv_room (Nat.le_of_ble_eq_true rfl)) dX12_three_62 ⟨Nat.le_of_ble_eq_true rfl, Nat.le_of_ble_eq_true rfl⟩) hS (fun q _ h => hFc q h) hFc (fun r_7 u t_ H1 locs ht hvm hw hB hz1 hk1 hS => ?_)
              obtain ⟨hP1, hK1, hD1⟩ := hB
              rw [ht] at hP1
              have hK1 := va_K.moved hvm.symm hK1
              obtain ⟨hP, hD⟩ := va_join (wr := [(h0, .inr (13, moF m1 f w))]) (w1 := []) hP hD [] [0] rfl rfl (by decide) (by decide) hk1 hFc hP1 hD1
              have hK := (hK.sub (tys' := []) [] rfl).app hK1
              generalize H1 = H at hP hS ⊢
              have hP : va_P (dC, dI) vwCl [(h0, .inr (13, moF m1 f w))] H := hP
              have hD : va_D A [(h0, .inr (13, moF m1 f w))] := hD
              have hK : va_K (dC, dI) vwCl [(cB, .byte), (cI, .int), (cJ, .long), (cZ, .boolean)] s := hK
              have er_7 : r_7 = bo 1 (t3 a) (t3 b) := hw
              rw [er_7]
              refine lv_istore (lv' := [(6, .int (bo 1 (t3 a) (t3 b))), (5, .int (t3 b)), (4, .int (t3 a)), (0, .ref h0), (1, .int 1), (2, .int a), (3, .int b)]) hx hb dX12_three_65 hl (by decide) rfl (fun ls hl => ?_)
              refine lv_iload hx hb dX12_three_67 (lv_at hl 0 rfl) ?_
              refine lv_iconst (v := 2) hx hb dX12_three_69 (by decide) ?_
              refine lv_icmp_ne (tgt := 77) hx hb dX12_three_70 (by decide) (fun c_8 => ?_) (fun c_8 => ?_)
              · skip
                refine lv_iload hx hb dX12_three_77 (lv_at hl 0 rfl) ?_
                have hP9 := hP.sub (ws' := [(h0, .inr (13, moF m1 f w))]) [0] rfl
                have hD9 := hD.sub (ws' := [(h0, .inr (13, moF m1 f w))]) [0] (by decide) rfl
                have hK9 := hK.sub (tys' := [(cB, .byte), (cI, .int), (cJ, .long), (cZ, .boolean)]) [0, 1, 2, 3] rfl
                exact W.iret (v := (bo 1 (t3 a) (t3 b))) hx hb hr (fun t_ ht hW => ⟨⟨(bo 1 (t3 a) (t3 b)), (), rfl, by simp only [thr, n3, if_neg c_8], by rw [ht]; exact hP9, va_K.moved hW.alike hK9, hD9⟩, hS.F ht⟩) hS.2.2 dX12_three_79
              · skip
                refine lv_iconst (v := (-1)) hx hb dX12_three_73 (by decide) ?_
                refine lv_goto (tgt := 79) hx hb dX12_three_74 (by decide) ?_
                have hP9 := hP.sub (ws' := [(h0, .inr (13, moF m1 f w))]) [0] rfl
                have hD9 := hD.sub (ws' := [(h0, .inr (13, moF m1 f w))]) [0] (by decide) rfl
                have hK9 := hK.sub (tys' := [(cB, .byte), (cI, .int), (cJ, .long), (cZ, .boolean)]) [0, 1, 2, 3] rfl
                exact W.iret (v := (-1)) hx hb hr (fun t_ ht hW => ⟨⟨(-1), (), rfl, by simp only [thr, n3, if_pos c_8], by rw [ht]; exact hP9, va_K.moved hW.alike hK9, hD9⟩, hS.F ht⟩) hS.2.2 dX12_three_79
            · skip
              exact absurd c_6 (by decide)
        · skip
          exact absurd c_4 (by decide)
    refine lv_iload_n hx hb dX12_three_16 rfl (lv_at hl 4 rfl) ?_
    refine lv_if_eq (tgt := 25) hx hb dX12_three_17 (by decide) (fun c_9 => ?_) (fun c_9 => ?_)
    · skip
      refine lv_iload_n hx hb dX12_three_25 rfl (lv_at hl 4 rfl) ?_
      refine lv_goto (tgt := 30) hx hb dX12_three_26 (by decide) ?_
      exact W.eq (by unfold t3; rw [if_pos c_9]) (mg_2 _ _ hP hD hS)
    · skip
      refine lv_iload_n hx hb dX12_three_20 rfl (lv_at hl 4 rfl) ?_
      refine lv_iconst (v := 1) hx hb dX12_three_21 (by decide) ?_
      refine lv_icmp_ne (tgt := 29) hx hb dX12_three_22 (by decide) (fun c_10 => ?_) (fun c_10 => ?_)
      · skip
        refine lv_iconst (v := 2) hx hb dX12_three_29 (by decide) ?_
        exact W.eq (by unfold t3; rw [if_neg c_9, if_neg c_10]) (mg_2 _ _ hP hD hS)
      · skip
        refine lv_iload_n hx hb dX12_three_25 rfl (lv_at hl 4 rfl) ?_
        refine lv_goto (tgt := 30) hx hb dX12_three_26 (by decide) ?_
        exact W.eq (by unfold t3; rw [if_neg c_9, if_pos c_10]) (mg_2 _ _ hP hD hS)
  refine lv_iload_n hx hb dX12_three_0 rfl (lv_at hl 2 rfl) ?_
  refine lv_if_eq (tgt := 9) hx hb dX12_three_1 (by decide) (fun c_11 => ?_) (fun c_11 => ?_)
  · skip
    refine lv_iload_n hx hb dX12_three_9 rfl (lv_at hl 2 rfl) ?_
    refine lv_goto (tgt := 14) hx hb dX12_three_10 (by decide) ?_
    exact W.eq (by unfold t3; rw [if_pos c_11]) (mg_1 _ _ hP hD hS)
  · skip
    refine lv_iload_n hx hb dX12_three_4 rfl (lv_at hl 2 rfl) ?_
    refine lv_iconst (v := 1) hx hb dX12_three_5 (by decide) ?_
    refine lv_icmp_ne (tgt := 13) hx hb dX12_three_6 (by decide) (fun c_12 => ?_) (fun c_12 => ?_)
    · skip
      refine lv_iconst (v := 2) hx hb dX12_three_13 (by decide) ?_
      exact W.eq (by unfold t3; rw [if_neg c_11, if_neg c_12]) (mg_1 _ _ hP hD hS)
    · skip
      refine lv_iload_n hx hb dX12_three_9 rfl (lv_at hl 2 rfl) ?_
      refine lv_goto (tgt := 14) hx hb dX12_three_10 (by decide) ?_
      exact W.eq (by unfold t3; rw [if_neg c_11, if_pos c_12]) (mg_1 _ _ hP hD hS)
abbrev cs_t_mthree_2 (cB cI cJ cZ : ClassId) (h0 : Nat) (m1 : Nat → Nat) (f : Nat → Int32) (w : Int64) (a b : Int32) : va_W := [(h0, .inr (13, moF m1 f w))]
abbrev pc_t_mthree_2 (dC : Nat → ClassId) (dI : Nat → Nat → Nat) (sz : Nat) (cB cI cJ cZ : ClassId) (h0 : Nat) (m1 : Nat → Nat) (f : Nat → Int32) (w : Int64) (a b : Int32) : Array Value → State → Prop := va_Pc [.ref h0, .int 2, .int a, .int b] (fun U => U.heap.size = sz ∧ va_P (dC, dI) vwCl [(h0, .inr (13, moF m1 f w))] U.heap ∧ va_K (dC, dI) vwCl [(cB, .byte), (cI, .int), (cJ, .long), (cZ, .boolean)] U ∧ va_D (fun _ => True) [(h0, .inr (13, moF m1 f w))])
abbrev qc_t_mthree_2 (dC : Nat → ClassId) (dI : Nat → Nat → Nat) (cB cI cJ cZ : ClassId) (h0 : Nat) (m1 : Nat → Nat) (f : Nat → Int32) (w : Int64) (a b : Int32) (A : Nat → Prop) : Array Value → State → Outcome → State → Prop := va_Qi (fun (r : Int32) (u : Unit) => match u with | _ => r = thr 2 a b) (fun (u : Unit) t_ => match u with | _ => va_P (dC, dI) vwCl [(h0, .inr (13, moF m1 f w))] t_.heap ∧ va_K (dC, dI) vwCl [(cB, .byte), (cI, .int), (cJ, .long), (cZ, .boolean)] t_ ∧ va_D A [(h0, .inr (13, moF m1 f w))]) A
set_option maxHeartbeats 4000000 in
set_option maxRecDepth 100000 in
theorem t_mthree_2 (l : Launch) (dC : Nat → ClassId) (dI : Nat → Nat → Nat) (sz : Nat) (cB cI cJ cZ : ClassId) (h0 : Nat) (m1 : Nat → Nat) (f : Nat → Int32) (w : Int64) (a b : Int32)  : Met l yX12_three (wsOf yX12_three cX12_three 7 (some .int)) ({ frames := 1, cells := 0, slots := 0, locals := 23 }) (pc_t_mthree_2 dC dI sz cB cI cJ cZ h0 m1 f w a b) (qc_t_mthree_2 dC dI cB cI cJ cZ h0 m1 f w a b (va_A (cs_t_mthree_2 cB cI cJ cZ h0 m1 f w a b) sz)) 0 0 (va_A (cs_t_mthree_2 cB cI cJ cZ h0 m1 f w a b) sz) := by
  refine Met.ofW (cc := cX12_three) (maxL := 7) (ret := (some .int)) (by decide) rfl ?_
  intro p e s m args below meth c s₁ B hml hv
  obtain ⟨rfl, hsz, hP, hK, hD0⟩ := hv
  have hx := B.exec
  have hb := B.bytes
  have hr := B.returns
  have hts := atoms_spec (ws := (wsOf yX12_three cX12_three 7 (some .int))) B.pre
  have hown : s.vm.findClass RX12 = some m.cls := findClass_of_methodNamed B.named
  have hlocks := B.notSynchronized
  subst hsz
  have hD := hD0.self (sz := s.heap.size)
  generalize hAe : va_A (cs_t_mthree_2 cB cI cJ cZ h0 m1 f w a b) s.heap.size = A at hD ⊢
  have hA : ∀ q : Nat, s.heap.size ≤ q → A q := fun q h => by rw [← hAe]; exact Or.inr h
  have hS : va_S A s.heap s.heap [] := va_S.rf
  have hP : va_P (dC, dI) vwCl [(h0, .inr (13, moF m1 f w))] s.heap := hP
  have hl := lv_entry ([.ref h0, .int 2, .int a, .int b]) (n := 7) (Nat.le_of_ble_eq_true rfl)
  rw [lg_entry_eq]
  generalize (lg_sl ([.ref h0, .int 2, .int a, .int b]) ++ List.replicate (7 - (lg_sl ([.ref h0, .int 2, .int a, .int b])).length) Slot.unset).toArray = ls at hl ⊢
  have hl : lv_has ls 7 [(0, .ref h0), (1, .int 2), (2, .int a), (3, .int b)] := hl
  have mg_1 : ∀ (H : Heap) (locs : List Loc), va_P (dC, dI) vwCl [(h0, .inr (13, moF m1 f w))] H → va_D A [(h0, .inr (13, moF m1 f w))] → va_S A s.heap H locs → W p l e (headSpec (wsOf yX12_three cX12_three 7 (some .int)) ({ frames := 1, cells := 0, slots := 0, locals := 23 })).room s m ([.ref h0, .int 2, .int a, .int b] : List Value).toArray below meth c H locs 0 0 (MQ below (qc_t_mthree_2 dC dI cB cI cJ cZ h0 m1 f w a b A) ([.ref h0, .int 2, .int a, .int b] : List Value).toArray s 0 0 A) (F0 m 14 ls [.int (t3 a)]) := by
    intro H locs hP hD hS
    refine lv_istore (lv' := [(4, .int (t3 a)), (0, .ref h0), (1, .int 2), (2, .int a), (3, .int b)]) hx hb dX12_three_14 hl (by decide) rfl (fun ls hl => ?_)
    have mg_2 : ∀ (H : Heap) (locs : List Loc), va_P (dC, dI) vwCl [(h0, .inr (13, moF m1 f w))] H → va_D A [(h0, .inr (13, moF m1 f w))] → va_S A s.heap H locs → W p l e (headSpec (wsOf yX12_three cX12_three 7 (some .int)) ({ frames := 1, cells := 0, slots := 0, locals := 23 })).room s m ([.ref h0, .int 2, .int a, .int b] : List Value).toArray below meth c H locs 0 0 (MQ below (qc_t_mthree_2 dC dI cB cI cJ cZ h0 m1 f w a b A) ([.ref h0, .int 2, .int a, .int b] : List Value).toArray s 0 0 A) (F0 m 30 ls [.int (t3 b)]) := by
      intro H locs hP hD hS
      refine lv_istore (lv' := [(5, .int (t3 b)), (4, .int (t3 a)), (0, .ref h0), (1, .int 2), (2, .int a), (3, .int b)]) hx hb dX12_three_30 hl (by decide) rfl (fun ls hl => ?_)
      refine lv_iload_n hx hb dX12_three_32 rfl (lv_at hl 3 rfl) ?_
      refine lv_if_lt (tgt := 41) hx hb dX12_three_33 (by decide) (fun c_3 => ?_) (fun c_3 => ?_)
      · skip
        exact absurd c_3 (by decide)
      · skip
        refine lv_iload_n hx hb dX12_three_36 rfl (lv_at hl 3 rfl) ?_
        refine lv_iconst (v := 5) hx hb dX12_three_37 (by decide) ?_
        refine lv_icmp_le (tgt := 44) hx hb dX12_three_38 (by decide) (fun c_4 => ?_) (fun c_4 => ?_)
        · skip
          refine lv_iload_n hx hb dX12_three_44 rfl (lv_at hl 3 rfl) ?_
          refine lv_iconst (v := 1) hx hb dX12_three_45 (by decide) ?_
          refine lv_icmp_gt (tgt := 80) hx hb dX12_three_46 (by decide) (fun c_5 => ?_) (fun c_5 => ?_)
          · skip
            refine lv_iload_n hx hb dX12_three_80 rfl (lv_at hl 3 rfl) ?_
            refine lv_iconst (v := 2) hx hb dX12_three_81 (by decide) ?_
            refine lv_icmp_ne (tgt := 100) hx hb dX12_three_82 (by decide) (fun c_6 => ?_) (fun c_6 => ?_)
            · skip
              exact absurd c_6 (by decide)
            · skip
              refine lv_iload hx hb dX12_three_85 (lv_at hl 1 rfl) ?_
              refine lv_iconst (v := 2) hx hb dX12_three_87 (by decide) ?_
              refine lv_icmp_ne (tgt := 95) hx hb dX12_three_88 (by decide) (fun c_7 => ?_) (fun c_7 => ?_)
              · skip
                refine lv_iconst (v := 1) hx hb dX12_three_95 (by decide) ?_
                refine lv_iload hx hb dX12_three_96 (lv_at hl 1 rfl) ?_
                refine lv_isub hx hb dX12_three_98 ?_
                have hP9 := hP.sub (ws' := [(h0, .inr (13, moF m1 f w))]) [0] rfl
                have hD9 := hD.sub (ws' := [(h0, .inr (13, moF m1 f w))]) [0] (by decide) rfl
                have hK9 := hK.sub (tys' := [(cB, .byte), (cI, .int), (cJ, .long), (cZ, .boolean)]) [0, 1, 2, 3] rfl
                exact W.iret (v := (1 - (t3 a))) hx hb hr (fun t_ ht hW => ⟨⟨(1 - (t3 a)), (), rfl, by simp only [thr, n3, if_neg c_7], by rw [ht]; exact hP9, va_K.moved hW.alike hK9, hD9⟩, hS.F ht⟩) hS.2.2 dX12_three_99
              · skip
                refine lv_iconst (v := (-1)) hx hb dX12_three_91 (by decide) ?_
                refine lv_goto (tgt := 99) hx hb dX12_three_92 (by decide) ?_
                have hP9 := hP.sub (ws' := [(h0, .inr (13, moF m1 f w))]) [0] rfl
                have hD9 := hD.sub (ws' := [(h0, .inr (13, moF m1 f w))]) [0] (by decide) rfl
                have hK9 := hK.sub (tys' := [(cB, .byte), (cI, .int), (cJ, .long), (cZ, .boolean)]) [0, 1, 2, 3] rfl
                exact W.iret (v := (-1)) hx hb hr (fun t_ ht hW => ⟨⟨(-1), (), rfl, by simp only [thr, n3, if_pos c_7], by rw [ht]; exact hP9, va_K.moved hW.alike hK9, hD9⟩, hS.F ht⟩) hS.2.2 dX12_three_99
          · skip
            exact absurd c_5 (by decide)
        · skip
          exact absurd c_4 (by decide)
    refine lv_iload_n hx hb dX12_three_16 rfl (lv_at hl 4 rfl) ?_
    refine lv_if_eq (tgt := 25) hx hb dX12_three_17 (by decide) (fun c_8 => ?_) (fun c_8 => ?_)
    · skip
      refine lv_iload_n hx hb dX12_three_25 rfl (lv_at hl 4 rfl) ?_
      refine lv_goto (tgt := 30) hx hb dX12_three_26 (by decide) ?_
      exact W.eq (by unfold t3; rw [if_pos c_8]) (mg_2 _ _ hP hD hS)
    · skip
      refine lv_iload_n hx hb dX12_three_20 rfl (lv_at hl 4 rfl) ?_
      refine lv_iconst (v := 1) hx hb dX12_three_21 (by decide) ?_
      refine lv_icmp_ne (tgt := 29) hx hb dX12_three_22 (by decide) (fun c_9 => ?_) (fun c_9 => ?_)
      · skip
        refine lv_iconst (v := 2) hx hb dX12_three_29 (by decide) ?_
        exact W.eq (by unfold t3; rw [if_neg c_8, if_neg c_9]) (mg_2 _ _ hP hD hS)
      · skip
        refine lv_iload_n hx hb dX12_three_25 rfl (lv_at hl 4 rfl) ?_
        refine lv_goto (tgt := 30) hx hb dX12_three_26 (by decide) ?_
        exact W.eq (by unfold t3; rw [if_neg c_8, if_pos c_9]) (mg_2 _ _ hP hD hS)
  refine lv_iload_n hx hb dX12_three_0 rfl (lv_at hl 2 rfl) ?_
  refine lv_if_eq (tgt := 9) hx hb dX12_three_1 (by decide) (fun c_10 => ?_) (fun c_10 => ?_)
  · skip
    refine lv_iload_n hx hb dX12_three_9 rfl (lv_at hl 2 rfl) ?_
    refine lv_goto (tgt := 14) hx hb dX12_three_10 (by decide) ?_
    exact W.eq (by unfold t3; rw [if_pos c_10]) (mg_1 _ _ hP hD hS)
  · skip
    refine lv_iload_n hx hb dX12_three_4 rfl (lv_at hl 2 rfl) ?_
    refine lv_iconst (v := 1) hx hb dX12_three_5 (by decide) ?_
    refine lv_icmp_ne (tgt := 13) hx hb dX12_three_6 (by decide) (fun c_11 => ?_) (fun c_11 => ?_)
    · skip
      refine lv_iconst (v := 2) hx hb dX12_three_13 (by decide) ?_
      exact W.eq (by unfold t3; rw [if_neg c_10, if_neg c_11]) (mg_1 _ _ hP hD hS)
    · skip
      refine lv_iload_n hx hb dX12_three_9 rfl (lv_at hl 2 rfl) ?_
      refine lv_goto (tgt := 14) hx hb dX12_three_10 (by decide) ?_
      exact W.eq (by unfold t3; rw [if_neg c_10, if_pos c_11]) (mg_1 _ _ hP hD hS)
abbrev cs_t_mthree_3 (cB cI cJ cZ : ClassId) (h0 : Nat) (m1 : Nat → Nat) (f : Nat → Int32) (w : Int64) (a b : Int32) : va_W := [(h0, .inr (13, moF m1 f w))]
abbrev pc_t_mthree_3 (dC : Nat → ClassId) (dI : Nat → Nat → Nat) (sz : Nat) (cB cI cJ cZ : ClassId) (h0 : Nat) (m1 : Nat → Nat) (f : Nat → Int32) (w : Int64) (a b : Int32) : Array Value → State → Prop := va_Pc [.ref h0, .int 3, .int a, .int b] (fun U => U.heap.size = sz ∧ va_P (dC, dI) vwCl [(h0, .inr (13, moF m1 f w))] U.heap ∧ va_K (dC, dI) vwCl [(cB, .byte), (cI, .int), (cJ, .long), (cZ, .boolean)] U ∧ va_D (fun _ => True) [(h0, .inr (13, moF m1 f w))])
abbrev qc_t_mthree_3 (dC : Nat → ClassId) (dI : Nat → Nat → Nat) (cB cI cJ cZ : ClassId) (h0 : Nat) (m1 : Nat → Nat) (f : Nat → Int32) (w : Int64) (a b : Int32) (A : Nat → Prop) : Array Value → State → Outcome → State → Prop := va_Qi (fun (r : Int32) (u : Unit) => match u with | _ => r = thr 3 a b) (fun (u : Unit) t_ => match u with | _ => va_P (dC, dI) vwCl [(h0, .inr (13, moF m1 f w))] t_.heap ∧ va_K (dC, dI) vwCl [(cB, .byte), (cI, .int), (cJ, .long), (cZ, .boolean)] t_ ∧ va_D A [(h0, .inr (13, moF m1 f w))]) A
set_option maxHeartbeats 4000000 in
set_option maxRecDepth 100000 in
theorem t_mthree_3 (l : Launch) (dC : Nat → ClassId) (dI : Nat → Nat → Nat) (sz : Nat) (cB cI cJ cZ : ClassId) (h0 : Nat) (m1 : Nat → Nat) (f : Nat → Int32) (w : Int64) (a b : Int32)  : Met l yX12_three (wsOf yX12_three cX12_three 7 (some .int)) ({ frames := 1, cells := 0, slots := 0, locals := 23 }) (pc_t_mthree_3 dC dI sz cB cI cJ cZ h0 m1 f w a b) (qc_t_mthree_3 dC dI cB cI cJ cZ h0 m1 f w a b (va_A (cs_t_mthree_3 cB cI cJ cZ h0 m1 f w a b) sz)) 0 0 (va_A (cs_t_mthree_3 cB cI cJ cZ h0 m1 f w a b) sz) := by
  refine Met.ofW (cc := cX12_three) (maxL := 7) (ret := (some .int)) (by decide) rfl ?_
  intro p e s m args below meth c s₁ B hml hv
  obtain ⟨rfl, hsz, hP, hK, hD0⟩ := hv
  have hx := B.exec
  have hb := B.bytes
  have hr := B.returns
  have hts := atoms_spec (ws := (wsOf yX12_three cX12_three 7 (some .int))) B.pre
  have hown : s.vm.findClass RX12 = some m.cls := findClass_of_methodNamed B.named
  have hlocks := B.notSynchronized
  subst hsz
  have hD := hD0.self (sz := s.heap.size)
  generalize hAe : va_A (cs_t_mthree_3 cB cI cJ cZ h0 m1 f w a b) s.heap.size = A at hD ⊢
  have hA : ∀ q : Nat, s.heap.size ≤ q → A q := fun q h => by rw [← hAe]; exact Or.inr h
  have hS : va_S A s.heap s.heap [] := va_S.rf
  have hP : va_P (dC, dI) vwCl [(h0, .inr (13, moF m1 f w))] s.heap := hP
  have hl := lv_entry ([.ref h0, .int 3, .int a, .int b]) (n := 7) (Nat.le_of_ble_eq_true rfl)
  rw [lg_entry_eq]
  generalize (lg_sl ([.ref h0, .int 3, .int a, .int b]) ++ List.replicate (7 - (lg_sl ([.ref h0, .int 3, .int a, .int b])).length) Slot.unset).toArray = ls at hl ⊢
  have hl : lv_has ls 7 [(0, .ref h0), (1, .int 3), (2, .int a), (3, .int b)] := hl
  have mg_1 : ∀ (H : Heap) (locs : List Loc), va_P (dC, dI) vwCl [(h0, .inr (13, moF m1 f w))] H → va_D A [(h0, .inr (13, moF m1 f w))] → va_S A s.heap H locs → W p l e (headSpec (wsOf yX12_three cX12_three 7 (some .int)) ({ frames := 1, cells := 0, slots := 0, locals := 23 })).room s m ([.ref h0, .int 3, .int a, .int b] : List Value).toArray below meth c H locs 0 0 (MQ below (qc_t_mthree_3 dC dI cB cI cJ cZ h0 m1 f w a b A) ([.ref h0, .int 3, .int a, .int b] : List Value).toArray s 0 0 A) (F0 m 14 ls [.int (t3 a)]) := by
    intro H locs hP hD hS
    refine lv_istore (lv' := [(4, .int (t3 a)), (0, .ref h0), (1, .int 3), (2, .int a), (3, .int b)]) hx hb dX12_three_14 hl (by decide) rfl (fun ls hl => ?_)
    have mg_2 : ∀ (H : Heap) (locs : List Loc), va_P (dC, dI) vwCl [(h0, .inr (13, moF m1 f w))] H → va_D A [(h0, .inr (13, moF m1 f w))] → va_S A s.heap H locs → W p l e (headSpec (wsOf yX12_three cX12_three 7 (some .int)) ({ frames := 1, cells := 0, slots := 0, locals := 23 })).room s m ([.ref h0, .int 3, .int a, .int b] : List Value).toArray below meth c H locs 0 0 (MQ below (qc_t_mthree_3 dC dI cB cI cJ cZ h0 m1 f w a b A) ([.ref h0, .int 3, .int a, .int b] : List Value).toArray s 0 0 A) (F0 m 30 ls [.int (t3 b)]) := by
      intro H locs hP hD hS
      refine lv_istore (lv' := [(5, .int (t3 b)), (4, .int (t3 a)), (0, .ref h0), (1, .int 3), (2, .int a), (3, .int b)]) hx hb dX12_three_30 hl (by decide) rfl (fun ls hl => ?_)
      refine lv_iload_n hx hb dX12_three_32 rfl (lv_at hl 3 rfl) ?_
      refine lv_if_lt (tgt := 41) hx hb dX12_three_33 (by decide) (fun c_3 => ?_) (fun c_3 => ?_)
      · skip
        exact absurd c_3 (by decide)
      · skip
        refine lv_iload_n hx hb dX12_three_36 rfl (lv_at hl 3 rfl) ?_
        refine lv_iconst (v := 5) hx hb dX12_three_37 (by decide) ?_
        refine lv_icmp_le (tgt := 44) hx hb dX12_three_38 (by decide) (fun c_4 => ?_) (fun c_4 => ?_)
        · skip
          refine lv_iload_n hx hb dX12_three_44 rfl (lv_at hl 3 rfl) ?_
          refine lv_iconst (v := 1) hx hb dX12_three_45 (by decide) ?_
          refine lv_icmp_gt (tgt := 80) hx hb dX12_three_46 (by decide) (fun c_5 => ?_) (fun c_5 => ?_)
          · skip
            refine lv_iload_n hx hb dX12_three_80 rfl (lv_at hl 3 rfl) ?_
            refine lv_iconst (v := 2) hx hb dX12_three_81 (by decide) ?_
            refine lv_icmp_ne (tgt := 100) hx hb dX12_three_82 (by decide) (fun c_6 => ?_) (fun c_6 => ?_)
            · skip
              refine lv_iload hx hb dX12_three_100 (lv_at hl 1 rfl) ?_
              refine lv_iconst (v := 2) hx hb dX12_three_102 (by decide) ?_
              refine lv_icmp_eq (tgt := 112) hx hb dX12_three_103 (by decide) (fun c_7 => ?_) (fun c_7 => ?_)
              · skip
                refine lv_iconst (v := (-1)) hx hb dX12_three_112 (by decide) ?_
                have hP9 := hP.sub (ws' := [(h0, .inr (13, moF m1 f w))]) [0] rfl
                have hD9 := hD.sub (ws' := [(h0, .inr (13, moF m1 f w))]) [0] (by decide) rfl
                have hK9 := hK.sub (tys' := [(cB, .byte), (cI, .int), (cJ, .long), (cZ, .boolean)]) [0, 1, 2, 3] rfl
                exact W.iret (v := (-1)) hx hb hr (fun t_ ht hW => ⟨⟨(-1), (), rfl, by simp only [thr, n3, if_pos c_7], by rw [ht]; exact hP9, va_K.moved hW.alike hK9, hD9⟩, hS.F ht⟩) hS.2.2 dX12_three_113
              · skip
                refine lv_iload hx hb dX12_three_106 (lv_at hl 0 rfl) ?_
                refine lv_iconst (v := 2) hx hb dX12_three_108 (by decide) ?_
                refine lv_icmp_ne (tgt := 114) hx hb dX12_three_109 (by decide) (fun c_8 => ?_) (fun c_8 => ?_)
                · skip
                  refine lv_iload_n hx hb dX12_three_114 rfl (lv_at hl 3 rfl) ?_
                  refine lv_iconst (v := 3) hx hb dX12_three_115 (by decide) ?_
                  refine lv_icmp_ne (tgt := 134) hx hb dX12_three_116 (by decide) (fun c_9 => ?_) (fun c_9 => ?_)
                  · skip
                    exact absurd c_9 (by decide)
                  · skip
                    refine lv_iload hx hb dX12_three_119 (lv_at hl 1 rfl) ?_
                    refine lv_iload hx hb dX12_three_121 (lv_at hl 0 rfl) ?_
                    refine lv_icmp_ne (tgt := 130) hx hb dX12_three_123 (by decide) (fun c_10 => ?_) (fun c_10 => ?_)
                    · skip
                      refine lv_iconst (v := 0) hx hb dX12_three_130 (by decide) ?_
                      refine lv_goto (tgt := 159) hx hb dX12_three_131 (by decide) ?_
                      have hP9 := hP.sub (ws' := [(h0, .inr (13, moF m1 f w))]) [0] rfl
                      have hD9 := hD.sub (ws' := [(h0, .inr (13, moF m1 f w))]) [0] (by decide) rfl
                      have hK9 := hK.sub (tys' := [(cB, .byte), (cI, .int), (cJ, .long), (cZ, .boolean)]) [0, 1, 2, 3] rfl
                      exact W.iret (v := 0) hx hb hr (fun t_ ht hW => ⟨⟨0, (), rfl, by simp only [thr, n3, if_neg c_7, if_neg c_8, if_neg c_10], by rw [ht]; exact hP9, va_K.moved hW.alike hK9, hD9⟩, hS.F ht⟩) hS.2.2 dX12_three_159
                    · skip
                      refine lv_iconst (v := 1) hx hb dX12_three_126 (by decide) ?_
                      refine lv_goto (tgt := 159) hx hb dX12_three_127 (by decide) ?_
                      have hP9 := hP.sub (ws' := [(h0, .inr (13, moF m1 f w))]) [0] rfl
                      have hD9 := hD.sub (ws' := [(h0, .inr (13, moF m1 f w))]) [0] (by decide) rfl
                      have hK9 := hK.sub (tys' := [(cB, .byte), (cI, .int), (cJ, .long), (cZ, .boolean)]) [0, 1, 2, 3] rfl
                      exact W.iret (v := 1) hx hb hr (fun t_ ht hW => ⟨⟨1, (), rfl, by simp only [thr, n3, if_neg c_7, if_neg c_8, if_pos c_10], by rw [ht]; exact hP9, va_K.moved hW.alike hK9, hD9⟩, hS.F ht⟩) hS.2.2 dX12_three_159
                · skip
                  refine lv_iconst (v := (-1)) hx hb dX12_three_112 (by decide) ?_
                  have hP9 := hP.sub (ws' := [(h0, .inr (13, moF m1 f w))]) [0] rfl
                  have hD9 := hD.sub (ws' := [(h0, .inr (13, moF m1 f w))]) [0] (by decide) rfl
                  have hK9 := hK.sub (tys' := [(cB, .byte), (cI, .int), (cJ, .long), (cZ, .boolean)]) [0, 1, 2, 3] rfl
                  exact W.iret (v := (-1)) hx hb hr (fun t_ ht hW => ⟨⟨(-1), (), rfl, by simp only [thr, n3, if_neg c_7, if_pos c_8], by rw [ht]; exact hP9, va_K.moved hW.alike hK9, hD9⟩, hS.F ht⟩) hS.2.2 dX12_three_113
            · skip
              exact absurd c_6 (by decide)
          · skip
            exact absurd c_5 (by decide)
        · skip
          exact absurd c_4 (by decide)
    refine lv_iload_n hx hb dX12_three_16 rfl (lv_at hl 4 rfl) ?_
    refine lv_if_eq (tgt := 25) hx hb dX12_three_17 (by decide) (fun c_11 => ?_) (fun c_11 => ?_)
    · skip
      refine lv_iload_n hx hb dX12_three_25 rfl (lv_at hl 4 rfl) ?_
      refine lv_goto (tgt := 30) hx hb dX12_three_26 (by decide) ?_
      exact W.eq (by unfold t3; rw [if_pos c_11]) (mg_2 _ _ hP hD hS)
    · skip
      refine lv_iload_n hx hb dX12_three_20 rfl (lv_at hl 4 rfl) ?_
      refine lv_iconst (v := 1) hx hb dX12_three_21 (by decide) ?_
      refine lv_icmp_ne (tgt := 29) hx hb dX12_three_22 (by decide) (fun c_12 => ?_) (fun c_12 => ?_)
      · skip
        refine lv_iconst (v := 2) hx hb dX12_three_29 (by decide) ?_
        exact W.eq (by unfold t3; rw [if_neg c_11, if_neg c_12]) (mg_2 _ _ hP hD hS)
      · skip
        refine lv_iload_n hx hb dX12_three_25 rfl (lv_at hl 4 rfl) ?_
        refine lv_goto (tgt := 30) hx hb dX12_three_26 (by decide) ?_
        exact W.eq (by unfold t3; rw [if_neg c_11, if_pos c_12]) (mg_2 _ _ hP hD hS)
  refine lv_iload_n hx hb dX12_three_0 rfl (lv_at hl 2 rfl) ?_
  refine lv_if_eq (tgt := 9) hx hb dX12_three_1 (by decide) (fun c_13 => ?_) (fun c_13 => ?_)
  · skip
    refine lv_iload_n hx hb dX12_three_9 rfl (lv_at hl 2 rfl) ?_
    refine lv_goto (tgt := 14) hx hb dX12_three_10 (by decide) ?_
    exact W.eq (by unfold t3; rw [if_pos c_13]) (mg_1 _ _ hP hD hS)
  · skip
    refine lv_iload_n hx hb dX12_three_4 rfl (lv_at hl 2 rfl) ?_
    refine lv_iconst (v := 1) hx hb dX12_three_5 (by decide) ?_
    refine lv_icmp_ne (tgt := 13) hx hb dX12_three_6 (by decide) (fun c_14 => ?_) (fun c_14 => ?_)
    · skip
      refine lv_iconst (v := 2) hx hb dX12_three_13 (by decide) ?_
      exact W.eq (by unfold t3; rw [if_neg c_13, if_neg c_14]) (mg_1 _ _ hP hD hS)
    · skip
      refine lv_iload_n hx hb dX12_three_9 rfl (lv_at hl 2 rfl) ?_
      refine lv_goto (tgt := 14) hx hb dX12_three_10 (by decide) ?_
      exact W.eq (by unfold t3; rw [if_neg c_13, if_pos c_14]) (mg_1 _ _ hP hD hS)
abbrev cs_t_mthree_4 (cB cI cJ cZ : ClassId) (h0 : Nat) (m1 : Nat → Nat) (f : Nat → Int32) (w : Int64) (a b : Int32) : va_W := [(h0, .inr (13, moF m1 f w))]
abbrev pc_t_mthree_4 (dC : Nat → ClassId) (dI : Nat → Nat → Nat) (sz : Nat) (cB cI cJ cZ : ClassId) (h0 : Nat) (m1 : Nat → Nat) (f : Nat → Int32) (w : Int64) (a b : Int32) : Array Value → State → Prop := va_Pc [.ref h0, .int 4, .int a, .int b] (fun U => U.heap.size = sz ∧ va_P (dC, dI) vwCl [(h0, .inr (13, moF m1 f w))] U.heap ∧ va_K (dC, dI) vwCl [(cB, .byte), (cI, .int), (cJ, .long), (cZ, .boolean)] U ∧ va_D (fun _ => True) [(h0, .inr (13, moF m1 f w))])
abbrev qc_t_mthree_4 (dC : Nat → ClassId) (dI : Nat → Nat → Nat) (cB cI cJ cZ : ClassId) (h0 : Nat) (m1 : Nat → Nat) (f : Nat → Int32) (w : Int64) (a b : Int32) (A : Nat → Prop) : Array Value → State → Outcome → State → Prop := va_Qi (fun (r : Int32) (u : Unit) => match u with | _ => r = thr 4 a b) (fun (u : Unit) t_ => match u with | _ => va_P (dC, dI) vwCl [(h0, .inr (13, moF m1 f w))] t_.heap ∧ va_K (dC, dI) vwCl [(cB, .byte), (cI, .int), (cJ, .long), (cZ, .boolean)] t_ ∧ va_D A [(h0, .inr (13, moF m1 f w))]) A
set_option maxHeartbeats 4000000 in
set_option maxRecDepth 100000 in
theorem t_mthree_4 (l : Launch) (dC : Nat → ClassId) (dI : Nat → Nat → Nat) (sz : Nat) (cB cI cJ cZ : ClassId) (h0 : Nat) (m1 : Nat → Nat) (f : Nat → Int32) (w : Int64) (a b : Int32)  : Met l yX12_three (wsOf yX12_three cX12_three 7 (some .int)) ({ frames := 1, cells := 0, slots := 0, locals := 23 }) (pc_t_mthree_4 dC dI sz cB cI cJ cZ h0 m1 f w a b) (qc_t_mthree_4 dC dI cB cI cJ cZ h0 m1 f w a b (va_A (cs_t_mthree_4 cB cI cJ cZ h0 m1 f w a b) sz)) 0 0 (va_A (cs_t_mthree_4 cB cI cJ cZ h0 m1 f w a b) sz) := by
  refine Met.ofW (cc := cX12_three) (maxL := 7) (ret := (some .int)) (by decide) rfl ?_
  intro p e s m args below meth c s₁ B hml hv
  obtain ⟨rfl, hsz, hP, hK, hD0⟩ := hv
  have hx := B.exec
  have hb := B.bytes
  have hr := B.returns
  have hts := atoms_spec (ws := (wsOf yX12_three cX12_three 7 (some .int))) B.pre
  have hown : s.vm.findClass RX12 = some m.cls := findClass_of_methodNamed B.named
  have hlocks := B.notSynchronized
  subst hsz
  have hD := hD0.self (sz := s.heap.size)
  generalize hAe : va_A (cs_t_mthree_4 cB cI cJ cZ h0 m1 f w a b) s.heap.size = A at hD ⊢
  have hA : ∀ q : Nat, s.heap.size ≤ q → A q := fun q h => by rw [← hAe]; exact Or.inr h
  have hS : va_S A s.heap s.heap [] := va_S.rf
  have hP : va_P (dC, dI) vwCl [(h0, .inr (13, moF m1 f w))] s.heap := hP
  have hl := lv_entry ([.ref h0, .int 4, .int a, .int b]) (n := 7) (Nat.le_of_ble_eq_true rfl)
  rw [lg_entry_eq]
  generalize (lg_sl ([.ref h0, .int 4, .int a, .int b]) ++ List.replicate (7 - (lg_sl ([.ref h0, .int 4, .int a, .int b])).length) Slot.unset).toArray = ls at hl ⊢
  have hl : lv_has ls 7 [(0, .ref h0), (1, .int 4), (2, .int a), (3, .int b)] := hl
  have mg_1 : ∀ (H : Heap) (locs : List Loc), va_P (dC, dI) vwCl [(h0, .inr (13, moF m1 f w))] H → va_D A [(h0, .inr (13, moF m1 f w))] → va_S A s.heap H locs → W p l e (headSpec (wsOf yX12_three cX12_three 7 (some .int)) ({ frames := 1, cells := 0, slots := 0, locals := 23 })).room s m ([.ref h0, .int 4, .int a, .int b] : List Value).toArray below meth c H locs 0 0 (MQ below (qc_t_mthree_4 dC dI cB cI cJ cZ h0 m1 f w a b A) ([.ref h0, .int 4, .int a, .int b] : List Value).toArray s 0 0 A) (F0 m 14 ls [.int (t3 a)]) := by
    intro H locs hP hD hS
    refine lv_istore (lv' := [(4, .int (t3 a)), (0, .ref h0), (1, .int 4), (2, .int a), (3, .int b)]) hx hb dX12_three_14 hl (by decide) rfl (fun ls hl => ?_)
    have mg_2 : ∀ (H : Heap) (locs : List Loc), va_P (dC, dI) vwCl [(h0, .inr (13, moF m1 f w))] H → va_D A [(h0, .inr (13, moF m1 f w))] → va_S A s.heap H locs → W p l e (headSpec (wsOf yX12_three cX12_three 7 (some .int)) ({ frames := 1, cells := 0, slots := 0, locals := 23 })).room s m ([.ref h0, .int 4, .int a, .int b] : List Value).toArray below meth c H locs 0 0 (MQ below (qc_t_mthree_4 dC dI cB cI cJ cZ h0 m1 f w a b A) ([.ref h0, .int 4, .int a, .int b] : List Value).toArray s 0 0 A) (F0 m 30 ls [.int (t3 b)]) := by
      intro H locs hP hD hS
      refine lv_istore (lv' := [(5, .int (t3 b)), (4, .int (t3 a)), (0, .ref h0), (1, .int 4), (2, .int a), (3, .int b)]) hx hb dX12_three_30 hl (by decide) rfl (fun ls hl => ?_)
      refine lv_iload_n hx hb dX12_three_32 rfl (lv_at hl 3 rfl) ?_
      refine lv_if_lt (tgt := 41) hx hb dX12_three_33 (by decide) (fun c_3 => ?_) (fun c_3 => ?_)
      · skip
        exact absurd c_3 (by decide)
      · skip
        refine lv_iload_n hx hb dX12_three_36 rfl (lv_at hl 3 rfl) ?_
        refine lv_iconst (v := 5) hx hb dX12_three_37 (by decide) ?_
        refine lv_icmp_le (tgt := 44) hx hb dX12_three_38 (by decide) (fun c_4 => ?_) (fun c_4 => ?_)
        · skip
          refine lv_iload_n hx hb dX12_three_44 rfl (lv_at hl 3 rfl) ?_
          refine lv_iconst (v := 1) hx hb dX12_three_45 (by decide) ?_
          refine lv_icmp_gt (tgt := 80) hx hb dX12_three_46 (by decide) (fun c_5 => ?_) (fun c_5 => ?_)
          · skip
            refine lv_iload_n hx hb dX12_three_80 rfl (lv_at hl 3 rfl) ?_
            refine lv_iconst (v := 2) hx hb dX12_three_81 (by decide) ?_
            refine lv_icmp_ne (tgt := 100) hx hb dX12_three_82 (by decide) (fun c_6 => ?_) (fun c_6 => ?_)
            · skip
              refine lv_iload hx hb dX12_three_100 (lv_at hl 1 rfl) ?_
              refine lv_iconst (v := 2) hx hb dX12_three_102 (by decide) ?_
              refine lv_icmp_eq (tgt := 112) hx hb dX12_three_103 (by decide) (fun c_7 => ?_) (fun c_7 => ?_)
              · skip
                refine lv_iconst (v := (-1)) hx hb dX12_three_112 (by decide) ?_
                have hP9 := hP.sub (ws' := [(h0, .inr (13, moF m1 f w))]) [0] rfl
                have hD9 := hD.sub (ws' := [(h0, .inr (13, moF m1 f w))]) [0] (by decide) rfl
                have hK9 := hK.sub (tys' := [(cB, .byte), (cI, .int), (cJ, .long), (cZ, .boolean)]) [0, 1, 2, 3] rfl
                exact W.iret (v := (-1)) hx hb hr (fun t_ ht hW => ⟨⟨(-1), (), rfl, by simp only [thr, n3, if_pos c_7], by rw [ht]; exact hP9, va_K.moved hW.alike hK9, hD9⟩, hS.F ht⟩) hS.2.2 dX12_three_113
              · skip
                refine lv_iload hx hb dX12_three_106 (lv_at hl 0 rfl) ?_
                refine lv_iconst (v := 2) hx hb dX12_three_108 (by decide) ?_
                refine lv_icmp_ne (tgt := 114) hx hb dX12_three_109 (by decide) (fun c_8 => ?_) (fun c_8 => ?_)
                · skip
                  refine lv_iload_n hx hb dX12_three_114 rfl (lv_at hl 3 rfl) ?_
                  refine lv_iconst (v := 3) hx hb dX12_three_115 (by decide) ?_
                  refine lv_icmp_ne (tgt := 134) hx hb dX12_three_116 (by decide) (fun c_9 => ?_) (fun c_9 => ?_)
                  · skip
                    refine lv_iload_n hx hb dX12_three_134 rfl (lv_at hl 3 rfl) ?_
                    refine lv_iconst (v := 4) hx hb dX12_three_135 (by decide) ?_
                    refine lv_icmp_ne (tgt := 154) hx hb dX12_three_136 (by decide) (fun c_10 => ?_) (fun c_10 => ?_)
                    · skip
                      exact absurd c_10 (by decide)
                    · skip
                      refine lv_iload hx hb dX12_three_139 (lv_at hl 1 rfl) ?_
                      refine lv_iload hx hb dX12_three_141 (lv_at hl 0 rfl) ?_
                      refine lv_icmp_ge (tgt := 150) hx hb dX12_three_143 (by decide) (fun c_11 => ?_) (fun c_11 => ?_)
                      · skip
                        refine lv_iconst (v := 0) hx hb dX12_three_150 (by decide) ?_
                        refine lv_goto (tgt := 159) hx hb dX12_three_151 (by decide) ?_
                        have hP9 := hP.sub (ws' := [(h0, .inr (13, moF m1 f w))]) [0] rfl
                        have hD9 := hD.sub (ws' := [(h0, .inr (13, moF m1 f w))]) [0] (by decide) rfl
                        have hK9 := hK.sub (tys' := [(cB, .byte), (cI, .int), (cJ, .long), (cZ, .boolean)]) [0, 1, 2, 3] rfl
                        exact W.iret (v := 0) hx hb hr (fun t_ ht hW => ⟨⟨0, (), rfl, by simp only [thr, n3, if_neg c_7, if_neg c_8, if_pos c_11], by rw [ht]; exact hP9, va_K.moved hW.alike hK9, hD9⟩, hS.F ht⟩) hS.2.2 dX12_three_159
                      · skip
                        refine lv_iconst (v := 1) hx hb dX12_three_146 (by decide) ?_
                        refine lv_goto (tgt := 159) hx hb dX12_three_147 (by decide) ?_
                        have hP9 := hP.sub (ws' := [(h0, .inr (13, moF m1 f w))]) [0] rfl
                        have hD9 := hD.sub (ws' := [(h0, .inr (13, moF m1 f w))]) [0] (by decide) rfl
                        have hK9 := hK.sub (tys' := [(cB, .byte), (cI, .int), (cJ, .long), (cZ, .boolean)]) [0, 1, 2, 3] rfl
                        exact W.iret (v := 1) hx hb hr (fun t_ ht hW => ⟨⟨1, (), rfl, by simp only [thr, n3, if_neg c_7, if_neg c_8, if_neg c_11], by rw [ht]; exact hP9, va_K.moved hW.alike hK9, hD9⟩, hS.F ht⟩) hS.2.2 dX12_three_159
                  · skip
                    exact absurd c_9 (by decide)
                · skip
                  refine lv_iconst (v := (-1)) hx hb dX12_three_112 (by decide) ?_
                  have hP9 := hP.sub (ws' := [(h0, .inr (13, moF m1 f w))]) [0] rfl
                  have hD9 := hD.sub (ws' := [(h0, .inr (13, moF m1 f w))]) [0] (by decide) rfl
                  have hK9 := hK.sub (tys' := [(cB, .byte), (cI, .int), (cJ, .long), (cZ, .boolean)]) [0, 1, 2, 3] rfl
                  exact W.iret (v := (-1)) hx hb hr (fun t_ ht hW => ⟨⟨(-1), (), rfl, by simp only [thr, n3, if_neg c_7, if_pos c_8], by rw [ht]; exact hP9, va_K.moved hW.alike hK9, hD9⟩, hS.F ht⟩) hS.2.2 dX12_three_113
            · skip
              exact absurd c_6 (by decide)
          · skip
            exact absurd c_5 (by decide)
        · skip
          exact absurd c_4 (by decide)
    refine lv_iload_n hx hb dX12_three_16 rfl (lv_at hl 4 rfl) ?_
    refine lv_if_eq (tgt := 25) hx hb dX12_three_17 (by decide) (fun c_12 => ?_) (fun c_12 => ?_)
    · skip
      refine lv_iload_n hx hb dX12_three_25 rfl (lv_at hl 4 rfl) ?_
      refine lv_goto (tgt := 30) hx hb dX12_three_26 (by decide) ?_
      exact W.eq (by unfold t3; rw [if_pos c_12]) (mg_2 _ _ hP hD hS)
    · skip
      refine lv_iload_n hx hb dX12_three_20 rfl (lv_at hl 4 rfl) ?_
      refine lv_iconst (v := 1) hx hb dX12_three_21 (by decide) ?_
      refine lv_icmp_ne (tgt := 29) hx hb dX12_three_22 (by decide) (fun c_13 => ?_) (fun c_13 => ?_)
      · skip
        refine lv_iconst (v := 2) hx hb dX12_three_29 (by decide) ?_
        exact W.eq (by unfold t3; rw [if_neg c_12, if_neg c_13]) (mg_2 _ _ hP hD hS)
      · skip
        refine lv_iload_n hx hb dX12_three_25 rfl (lv_at hl 4 rfl) ?_
        refine lv_goto (tgt := 30) hx hb dX12_three_26 (by decide) ?_
        exact W.eq (by unfold t3; rw [if_neg c_12, if_pos c_13]) (mg_2 _ _ hP hD hS)
  refine lv_iload_n hx hb dX12_three_0 rfl (lv_at hl 2 rfl) ?_
  refine lv_if_eq (tgt := 9) hx hb dX12_three_1 (by decide) (fun c_14 => ?_) (fun c_14 => ?_)
  · skip
    refine lv_iload_n hx hb dX12_three_9 rfl (lv_at hl 2 rfl) ?_
    refine lv_goto (tgt := 14) hx hb dX12_three_10 (by decide) ?_
    exact W.eq (by unfold t3; rw [if_pos c_14]) (mg_1 _ _ hP hD hS)
  · skip
    refine lv_iload_n hx hb dX12_three_4 rfl (lv_at hl 2 rfl) ?_
    refine lv_iconst (v := 1) hx hb dX12_three_5 (by decide) ?_
    refine lv_icmp_ne (tgt := 13) hx hb dX12_three_6 (by decide) (fun c_15 => ?_) (fun c_15 => ?_)
    · skip
      refine lv_iconst (v := 2) hx hb dX12_three_13 (by decide) ?_
      exact W.eq (by unfold t3; rw [if_neg c_14, if_neg c_15]) (mg_1 _ _ hP hD hS)
    · skip
      refine lv_iload_n hx hb dX12_three_9 rfl (lv_at hl 2 rfl) ?_
      refine lv_goto (tgt := 14) hx hb dX12_three_10 (by decide) ?_
      exact W.eq (by unfold t3; rw [if_neg c_14, if_pos c_15]) (mg_1 _ _ hP hD hS)
abbrev cs_t_mthree_5 (cB cI cJ cZ : ClassId) (h0 : Nat) (m1 : Nat → Nat) (f : Nat → Int32) (w : Int64) (a b : Int32) : va_W := [(h0, .inr (13, moF m1 f w))]
abbrev pc_t_mthree_5 (dC : Nat → ClassId) (dI : Nat → Nat → Nat) (sz : Nat) (cB cI cJ cZ : ClassId) (h0 : Nat) (m1 : Nat → Nat) (f : Nat → Int32) (w : Int64) (a b : Int32) : Array Value → State → Prop := va_Pc [.ref h0, .int 5, .int a, .int b] (fun U => U.heap.size = sz ∧ va_P (dC, dI) vwCl [(h0, .inr (13, moF m1 f w))] U.heap ∧ va_K (dC, dI) vwCl [(cB, .byte), (cI, .int), (cJ, .long), (cZ, .boolean)] U ∧ va_D (fun _ => True) [(h0, .inr (13, moF m1 f w))])
abbrev qc_t_mthree_5 (dC : Nat → ClassId) (dI : Nat → Nat → Nat) (cB cI cJ cZ : ClassId) (h0 : Nat) (m1 : Nat → Nat) (f : Nat → Int32) (w : Int64) (a b : Int32) (A : Nat → Prop) : Array Value → State → Outcome → State → Prop := va_Qi (fun (r : Int32) (u : Unit) => match u with | _ => r = thr 5 a b) (fun (u : Unit) t_ => match u with | _ => va_P (dC, dI) vwCl [(h0, .inr (13, moF m1 f w))] t_.heap ∧ va_K (dC, dI) vwCl [(cB, .byte), (cI, .int), (cJ, .long), (cZ, .boolean)] t_ ∧ va_D A [(h0, .inr (13, moF m1 f w))]) A
set_option maxHeartbeats 4000000 in
set_option maxRecDepth 100000 in
theorem t_mthree_5 (l : Launch) (dC : Nat → ClassId) (dI : Nat → Nat → Nat) (sz : Nat) (cB cI cJ cZ : ClassId) (h0 : Nat) (m1 : Nat → Nat) (f : Nat → Int32) (w : Int64) (a b : Int32)  : Met l yX12_three (wsOf yX12_three cX12_three 7 (some .int)) ({ frames := 1, cells := 0, slots := 0, locals := 23 }) (pc_t_mthree_5 dC dI sz cB cI cJ cZ h0 m1 f w a b) (qc_t_mthree_5 dC dI cB cI cJ cZ h0 m1 f w a b (va_A (cs_t_mthree_5 cB cI cJ cZ h0 m1 f w a b) sz)) 0 0 (va_A (cs_t_mthree_5 cB cI cJ cZ h0 m1 f w a b) sz) := by
  refine Met.ofW (cc := cX12_three) (maxL := 7) (ret := (some .int)) (by decide) rfl ?_
  intro p e s m args below meth c s₁ B hml hv
  obtain ⟨rfl, hsz, hP, hK, hD0⟩ := hv
  have hx := B.exec
  have hb := B.bytes
  have hr := B.returns
  have hts := atoms_spec (ws := (wsOf yX12_three cX12_three 7 (some .int))) B.pre
  have hown : s.vm.findClass RX12 = some m.cls := findClass_of_methodNamed B.named
  have hlocks := B.notSynchronized
  subst hsz
  have hD := hD0.self (sz := s.heap.size)
  generalize hAe : va_A (cs_t_mthree_5 cB cI cJ cZ h0 m1 f w a b) s.heap.size = A at hD ⊢
  have hA : ∀ q : Nat, s.heap.size ≤ q → A q := fun q h => by rw [← hAe]; exact Or.inr h
  have hS : va_S A s.heap s.heap [] := va_S.rf
  have hP : va_P (dC, dI) vwCl [(h0, .inr (13, moF m1 f w))] s.heap := hP
  have hl := lv_entry ([.ref h0, .int 5, .int a, .int b]) (n := 7) (Nat.le_of_ble_eq_true rfl)
  rw [lg_entry_eq]
  generalize (lg_sl ([.ref h0, .int 5, .int a, .int b]) ++ List.replicate (7 - (lg_sl ([.ref h0, .int 5, .int a, .int b])).length) Slot.unset).toArray = ls at hl ⊢
  have hl : lv_has ls 7 [(0, .ref h0), (1, .int 5), (2, .int a), (3, .int b)] := hl
  have mg_1 : ∀ (H : Heap) (locs : List Loc), va_P (dC, dI) vwCl [(h0, .inr (13, moF m1 f w))] H → va_D A [(h0, .inr (13, moF m1 f w))] → va_S A s.heap H locs → W p l e (headSpec (wsOf yX12_three cX12_three 7 (some .int)) ({ frames := 1, cells := 0, slots := 0, locals := 23 })).room s m ([.ref h0, .int 5, .int a, .int b] : List Value).toArray below meth c H locs 0 0 (MQ below (qc_t_mthree_5 dC dI cB cI cJ cZ h0 m1 f w a b A) ([.ref h0, .int 5, .int a, .int b] : List Value).toArray s 0 0 A) (F0 m 14 ls [.int (t3 a)]) := by
    intro H locs hP hD hS
    refine lv_istore (lv' := [(4, .int (t3 a)), (0, .ref h0), (1, .int 5), (2, .int a), (3, .int b)]) hx hb dX12_three_14 hl (by decide) rfl (fun ls hl => ?_)
    have mg_2 : ∀ (H : Heap) (locs : List Loc), va_P (dC, dI) vwCl [(h0, .inr (13, moF m1 f w))] H → va_D A [(h0, .inr (13, moF m1 f w))] → va_S A s.heap H locs → W p l e (headSpec (wsOf yX12_three cX12_three 7 (some .int)) ({ frames := 1, cells := 0, slots := 0, locals := 23 })).room s m ([.ref h0, .int 5, .int a, .int b] : List Value).toArray below meth c H locs 0 0 (MQ below (qc_t_mthree_5 dC dI cB cI cJ cZ h0 m1 f w a b A) ([.ref h0, .int 5, .int a, .int b] : List Value).toArray s 0 0 A) (F0 m 30 ls [.int (t3 b)]) := by
      intro H locs hP hD hS
      refine lv_istore (lv' := [(5, .int (t3 b)), (4, .int (t3 a)), (0, .ref h0), (1, .int 5), (2, .int a), (3, .int b)]) hx hb dX12_three_30 hl (by decide) rfl (fun ls hl => ?_)
      refine lv_iload_n hx hb dX12_three_32 rfl (lv_at hl 3 rfl) ?_
      refine lv_if_lt (tgt := 41) hx hb dX12_three_33 (by decide) (fun c_3 => ?_) (fun c_3 => ?_)
      · skip
        exact absurd c_3 (by decide)
      · skip
        refine lv_iload_n hx hb dX12_three_36 rfl (lv_at hl 3 rfl) ?_
        refine lv_iconst (v := 5) hx hb dX12_three_37 (by decide) ?_
        refine lv_icmp_le (tgt := 44) hx hb dX12_three_38 (by decide) (fun c_4 => ?_) (fun c_4 => ?_)
        · skip
          refine lv_iload_n hx hb dX12_three_44 rfl (lv_at hl 3 rfl) ?_
          refine lv_iconst (v := 1) hx hb dX12_three_45 (by decide) ?_
          refine lv_icmp_gt (tgt := 80) hx hb dX12_three_46 (by decide) (fun c_5 => ?_) (fun c_5 => ?_)
          · skip
            refine lv_iload_n hx hb dX12_three_80 rfl (lv_at hl 3 rfl) ?_
            refine lv_iconst (v := 2) hx hb dX12_three_81 (by decide) ?_
            refine lv_icmp_ne (tgt := 100) hx hb dX12_three_82 (by decide) (fun c_6 => ?_) (fun c_6 => ?_)
            · skip
              refine lv_iload hx hb dX12_three_100 (lv_at hl 1 rfl) ?_
              refine lv_iconst (v := 2) hx hb dX12_three_102 (by decide) ?_
              refine lv_icmp_eq (tgt := 112) hx hb dX12_three_103 (by decide) (fun c_7 => ?_) (fun c_7 => ?_)
              · skip
                refine lv_iconst (v := (-1)) hx hb dX12_three_112 (by decide) ?_
                have hP9 := hP.sub (ws' := [(h0, .inr (13, moF m1 f w))]) [0] rfl
                have hD9 := hD.sub (ws' := [(h0, .inr (13, moF m1 f w))]) [0] (by decide) rfl
                have hK9 := hK.sub (tys' := [(cB, .byte), (cI, .int), (cJ, .long), (cZ, .boolean)]) [0, 1, 2, 3] rfl
                exact W.iret (v := (-1)) hx hb hr (fun t_ ht hW => ⟨⟨(-1), (), rfl, by simp only [thr, n3, if_pos c_7], by rw [ht]; exact hP9, va_K.moved hW.alike hK9, hD9⟩, hS.F ht⟩) hS.2.2 dX12_three_113
              · skip
                refine lv_iload hx hb dX12_three_106 (lv_at hl 0 rfl) ?_
                refine lv_iconst (v := 2) hx hb dX12_three_108 (by decide) ?_
                refine lv_icmp_ne (tgt := 114) hx hb dX12_three_109 (by decide) (fun c_8 => ?_) (fun c_8 => ?_)
                · skip
                  refine lv_iload_n hx hb dX12_three_114 rfl (lv_at hl 3 rfl) ?_
                  refine lv_iconst (v := 3) hx hb dX12_three_115 (by decide) ?_
                  refine lv_icmp_ne (tgt := 134) hx hb dX12_three_116 (by decide) (fun c_9 => ?_) (fun c_9 => ?_)
                  · skip
                    refine lv_iload_n hx hb dX12_three_134 rfl (lv_at hl 3 rfl) ?_
                    refine lv_iconst (v := 4) hx hb dX12_three_135 (by decide) ?_
                    refine lv_icmp_ne (tgt := 154) hx hb dX12_three_136 (by decide) (fun c_10 => ?_) (fun c_10 => ?_)
                    · skip
                      refine lv_iload hx hb dX12_three_154 (lv_at hl 1 rfl) ?_
                      refine lv_iload hx hb dX12_three_156 (lv_at hl 0 rfl) ?_
                      refine lv_iadd hx hb dX12_three_158 ?_
                      have hP9 := hP.sub (ws' := [(h0, .inr (13, moF m1 f w))]) [0] rfl
                      have hD9 := hD.sub (ws' := [(h0, .inr (13, moF m1 f w))]) [0] (by decide) rfl
                      have hK9 := hK.sub (tys' := [(cB, .byte), (cI, .int), (cJ, .long), (cZ, .boolean)]) [0, 1, 2, 3] rfl
                      exact W.iret (v := ((t3 a) + (t3 b))) hx hb hr (fun t_ ht hW => ⟨⟨((t3 a) + (t3 b)), (), rfl, by simp only [thr, n3, if_neg c_7, if_neg c_8], by rw [ht]; exact hP9, va_K.moved hW.alike hK9, hD9⟩, hS.F ht⟩) hS.2.2 dX12_three_159
                    · skip
                      exact absurd c_10 (by decide)
                  · skip
                    exact absurd c_9 (by decide)
                · skip
                  refine lv_iconst (v := (-1)) hx hb dX12_three_112 (by decide) ?_
                  have hP9 := hP.sub (ws' := [(h0, .inr (13, moF m1 f w))]) [0] rfl
                  have hD9 := hD.sub (ws' := [(h0, .inr (13, moF m1 f w))]) [0] (by decide) rfl
                  have hK9 := hK.sub (tys' := [(cB, .byte), (cI, .int), (cJ, .long), (cZ, .boolean)]) [0, 1, 2, 3] rfl
                  exact W.iret (v := (-1)) hx hb hr (fun t_ ht hW => ⟨⟨(-1), (), rfl, by simp only [thr, n3, if_neg c_7, if_pos c_8], by rw [ht]; exact hP9, va_K.moved hW.alike hK9, hD9⟩, hS.F ht⟩) hS.2.2 dX12_three_113
            · skip
              exact absurd c_6 (by decide)
          · skip
            exact absurd c_5 (by decide)
        · skip
          exact absurd c_4 (by decide)
    refine lv_iload_n hx hb dX12_three_16 rfl (lv_at hl 4 rfl) ?_
    refine lv_if_eq (tgt := 25) hx hb dX12_three_17 (by decide) (fun c_11 => ?_) (fun c_11 => ?_)
    · skip
      refine lv_iload_n hx hb dX12_three_25 rfl (lv_at hl 4 rfl) ?_
      refine lv_goto (tgt := 30) hx hb dX12_three_26 (by decide) ?_
      exact W.eq (by unfold t3; rw [if_pos c_11]) (mg_2 _ _ hP hD hS)
    · skip
      refine lv_iload_n hx hb dX12_three_20 rfl (lv_at hl 4 rfl) ?_
      refine lv_iconst (v := 1) hx hb dX12_three_21 (by decide) ?_
      refine lv_icmp_ne (tgt := 29) hx hb dX12_three_22 (by decide) (fun c_12 => ?_) (fun c_12 => ?_)
      · skip
        refine lv_iconst (v := 2) hx hb dX12_three_29 (by decide) ?_
        exact W.eq (by unfold t3; rw [if_neg c_11, if_neg c_12]) (mg_2 _ _ hP hD hS)
      · skip
        refine lv_iload_n hx hb dX12_three_25 rfl (lv_at hl 4 rfl) ?_
        refine lv_goto (tgt := 30) hx hb dX12_three_26 (by decide) ?_
        exact W.eq (by unfold t3; rw [if_neg c_11, if_pos c_12]) (mg_2 _ _ hP hD hS)
  refine lv_iload_n hx hb dX12_three_0 rfl (lv_at hl 2 rfl) ?_
  refine lv_if_eq (tgt := 9) hx hb dX12_three_1 (by decide) (fun c_13 => ?_) (fun c_13 => ?_)
  · skip
    refine lv_iload_n hx hb dX12_three_9 rfl (lv_at hl 2 rfl) ?_
    refine lv_goto (tgt := 14) hx hb dX12_three_10 (by decide) ?_
    exact W.eq (by unfold t3; rw [if_pos c_13]) (mg_1 _ _ hP hD hS)
  · skip
    refine lv_iload_n hx hb dX12_three_4 rfl (lv_at hl 2 rfl) ?_
    refine lv_iconst (v := 1) hx hb dX12_three_5 (by decide) ?_
    refine lv_icmp_ne (tgt := 13) hx hb dX12_three_6 (by decide) (fun c_14 => ?_) (fun c_14 => ?_)
    · skip
      refine lv_iconst (v := 2) hx hb dX12_three_13 (by decide) ?_
      exact W.eq (by unfold t3; rw [if_neg c_13, if_neg c_14]) (mg_1 _ _ hP hD hS)
    · skip
      refine lv_iload_n hx hb dX12_three_9 rfl (lv_at hl 2 rfl) ?_
      refine lv_goto (tgt := 14) hx hb dX12_three_10 (by decide) ?_
      exact W.eq (by unfold t3; rw [if_neg c_13, if_pos c_14]) (mg_1 _ _ hP hD hS)
abbrev cs_t_mthree_o (cB cI cJ cZ : ClassId) (h0 : Nat) (m1 : Nat → Nat) (f : Nat → Int32) (w : Int64) (x a b : Int32) : va_W := [(h0, .inr (13, moF m1 f w))]
abbrev pc_t_mthree_o (dC : Nat → ClassId) (dI : Nat → Nat → Nat) (sz : Nat) (cB cI cJ cZ : ClassId) (h0 : Nat) (m1 : Nat → Nat) (f : Nat → Int32) (w : Int64) (x a b : Int32) : Array Value → State → Prop := va_Pc [.ref h0, .int x, .int a, .int b] (fun U => U.heap.size = sz ∧ va_P (dC, dI) vwCl [(h0, .inr (13, moF m1 f w))] U.heap ∧ va_K (dC, dI) vwCl [(cB, .byte), (cI, .int), (cJ, .long), (cZ, .boolean)] U ∧ va_D (fun _ => True) [(h0, .inr (13, moF m1 f w))])
abbrev qc_t_mthree_o (dC : Nat → ClassId) (dI : Nat → Nat → Nat) (cB cI cJ cZ : ClassId) (h0 : Nat) (m1 : Nat → Nat) (f : Nat → Int32) (w : Int64) (x a b : Int32) (A : Nat → Prop) : Array Value → State → Outcome → State → Prop := va_Qi (fun (r : Int32) (u : Unit) => match u with | _ => r = -2) (fun (u : Unit) t_ => match u with | _ => va_P (dC, dI) vwCl [(h0, .inr (13, moF m1 f w))] t_.heap ∧ va_K (dC, dI) vwCl [(cB, .byte), (cI, .int), (cJ, .long), (cZ, .boolean)] t_ ∧ va_D A [(h0, .inr (13, moF m1 f w))]) A
set_option maxHeartbeats 4000000 in
set_option maxRecDepth 100000 in
theorem t_mthree_o (l : Launch) (dC : Nat → ClassId) (dI : Nat → Nat → Nat) (sz : Nat) (cB cI cJ cZ : ClassId) (h0 : Nat) (m1 : Nat → Nat) (f : Nat → Int32) (w : Int64) (x a b : Int32) (ho : x < 0 ∨ ¬ x ≤ 5) : Met l yX12_three (wsOf yX12_three cX12_three 7 (some .int)) ({ frames := 0, cells := 0, slots := 0, locals := 0 }) (pc_t_mthree_o dC dI sz cB cI cJ cZ h0 m1 f w x a b) (qc_t_mthree_o dC dI cB cI cJ cZ h0 m1 f w x a b (va_A (cs_t_mthree_o cB cI cJ cZ h0 m1 f w x a b) sz)) 0 0 (va_A (cs_t_mthree_o cB cI cJ cZ h0 m1 f w x a b) sz) := by
  refine Met.ofW (cc := cX12_three) (maxL := 7) (ret := (some .int)) (by decide) rfl ?_
  intro p e s m args below meth c s₁ B hml hv
  obtain ⟨rfl, hsz, hP, hK, hD0⟩ := hv
  have hx := B.exec
  have hb := B.bytes
  have hr := B.returns
  have hts := atoms_spec (ws := (wsOf yX12_three cX12_three 7 (some .int))) B.pre
  have hown : s.vm.findClass RX12 = some m.cls := findClass_of_methodNamed B.named
  have hlocks := B.notSynchronized
  subst hsz
  have hD := hD0.self (sz := s.heap.size)
  generalize hAe : va_A (cs_t_mthree_o cB cI cJ cZ h0 m1 f w x a b) s.heap.size = A at hD ⊢
  have hA : ∀ q : Nat, s.heap.size ≤ q → A q := fun q h => by rw [← hAe]; exact Or.inr h
  have hS : va_S A s.heap s.heap [] := va_S.rf
  have hP : va_P (dC, dI) vwCl [(h0, .inr (13, moF m1 f w))] s.heap := hP
  have hl := lv_entry ([.ref h0, .int x, .int a, .int b]) (n := 7) (Nat.le_of_ble_eq_true rfl)
  rw [lg_entry_eq]
  generalize (lg_sl ([.ref h0, .int x, .int a, .int b]) ++ List.replicate (7 - (lg_sl ([.ref h0, .int x, .int a, .int b])).length) Slot.unset).toArray = ls at hl ⊢
  have hl : lv_has ls 7 [(0, .ref h0), (1, .int x), (2, .int a), (3, .int b)] := hl
  have mg_1 : ∀ (H : Heap) (locs : List Loc), va_P (dC, dI) vwCl [(h0, .inr (13, moF m1 f w))] H → va_D A [(h0, .inr (13, moF m1 f w))] → va_S A s.heap H locs → W p l e (headSpec (wsOf yX12_three cX12_three 7 (some .int)) ({ frames := 0, cells := 0, slots := 0, locals := 0 })).room s m ([.ref h0, .int x, .int a, .int b] : List Value).toArray below meth c H locs 0 0 (MQ below (qc_t_mthree_o dC dI cB cI cJ cZ h0 m1 f w x a b A) ([.ref h0, .int x, .int a, .int b] : List Value).toArray s 0 0 A) (F0 m 14 ls [.int (t3 a)]) := by
    intro H locs hP hD hS
    refine lv_istore (lv' := [(4, .int (t3 a)), (0, .ref h0), (1, .int x), (2, .int a), (3, .int b)]) hx hb dX12_three_14 hl (by decide) rfl (fun ls hl => ?_)
    have mg_2 : ∀ (H : Heap) (locs : List Loc), va_P (dC, dI) vwCl [(h0, .inr (13, moF m1 f w))] H → va_D A [(h0, .inr (13, moF m1 f w))] → va_S A s.heap H locs → W p l e (headSpec (wsOf yX12_three cX12_three 7 (some .int)) ({ frames := 0, cells := 0, slots := 0, locals := 0 })).room s m ([.ref h0, .int x, .int a, .int b] : List Value).toArray below meth c H locs 0 0 (MQ below (qc_t_mthree_o dC dI cB cI cJ cZ h0 m1 f w x a b A) ([.ref h0, .int x, .int a, .int b] : List Value).toArray s 0 0 A) (F0 m 30 ls [.int (t3 b)]) := by
      intro H locs hP hD hS
      refine lv_istore (lv' := [(5, .int (t3 b)), (4, .int (t3 a)), (0, .ref h0), (1, .int x), (2, .int a), (3, .int b)]) hx hb dX12_three_30 hl (by decide) rfl (fun ls hl => ?_)
      refine lv_iload_n hx hb dX12_three_32 rfl (lv_at hl 3 rfl) ?_
      refine lv_if_lt (tgt := 41) hx hb dX12_three_33 (by decide) (fun c_3 => ?_) (fun c_3 => ?_)
      · skip
        refine lv_bipush (v := (-2)) hx hb dX12_three_41 (by decide) ?_
        have hP9 := hP.sub (ws' := [(h0, .inr (13, moF m1 f w))]) [0] rfl
        have hD9 := hD.sub (ws' := [(h0, .inr (13, moF m1 f w))]) [0] (by decide) rfl
        have hK9 := hK.sub (tys' := [(cB, .byte), (cI, .int), (cJ, .long), (cZ, .boolean)]) [0, 1, 2, 3] rfl
        exact W.iret (v := (-2)) hx hb hr (fun t_ ht hW => ⟨⟨(-2), (), rfl, rfl, by rw [ht]; exact hP9, va_K.moved hW.alike hK9, hD9⟩, hS.F ht⟩) hS.2.2 dX12_three_43
      · skip
        refine lv_iload_n hx hb dX12_three_36 rfl (lv_at hl 3 rfl) ?_
        refine lv_iconst (v := 5) hx hb dX12_three_37 (by decide) ?_
        refine lv_icmp_le (tgt := 44) hx hb dX12_three_38 (by decide) (fun c_4 => ?_) (fun c_4 => ?_)
        · skip
          exact absurd ho (not_or.mpr ⟨c_3, fun h => h c_4⟩)
        · skip
          refine lv_bipush (v := (-2)) hx hb dX12_three_41 (by decide) ?_
          have hP9 := hP.sub (ws' := [(h0, .inr (13, moF m1 f w))]) [0] rfl
          have hD9 := hD.sub (ws' := [(h0, .inr (13, moF m1 f w))]) [0] (by decide) rfl
          have hK9 := hK.sub (tys' := [(cB, .byte), (cI, .int), (cJ, .long), (cZ, .boolean)]) [0, 1, 2, 3] rfl
          exact W.iret (v := (-2)) hx hb hr (fun t_ ht hW => ⟨⟨(-2), (), rfl, rfl, by rw [ht]; exact hP9, va_K.moved hW.alike hK9, hD9⟩, hS.F ht⟩) hS.2.2 dX12_three_43
    refine lv_iload_n hx hb dX12_three_16 rfl (lv_at hl 4 rfl) ?_
    refine lv_if_eq (tgt := 25) hx hb dX12_three_17 (by decide) (fun c_5 => ?_) (fun c_5 => ?_)
    · skip
      refine lv_iload_n hx hb dX12_three_25 rfl (lv_at hl 4 rfl) ?_
      refine lv_goto (tgt := 30) hx hb dX12_three_26 (by decide) ?_
      exact W.eq (by unfold t3; rw [if_pos c_5]) (mg_2 _ _ hP hD hS)
    · skip
      refine lv_iload_n hx hb dX12_three_20 rfl (lv_at hl 4 rfl) ?_
      refine lv_iconst (v := 1) hx hb dX12_three_21 (by decide) ?_
      refine lv_icmp_ne (tgt := 29) hx hb dX12_three_22 (by decide) (fun c_6 => ?_) (fun c_6 => ?_)
      · skip
        refine lv_iconst (v := 2) hx hb dX12_three_29 (by decide) ?_
        exact W.eq (by unfold t3; rw [if_neg c_5, if_neg c_6]) (mg_2 _ _ hP hD hS)
      · skip
        refine lv_iload_n hx hb dX12_three_25 rfl (lv_at hl 4 rfl) ?_
        refine lv_goto (tgt := 30) hx hb dX12_three_26 (by decide) ?_
        exact W.eq (by unfold t3; rw [if_neg c_5, if_pos c_6]) (mg_2 _ _ hP hD hS)
  refine lv_iload_n hx hb dX12_three_0 rfl (lv_at hl 2 rfl) ?_
  refine lv_if_eq (tgt := 9) hx hb dX12_three_1 (by decide) (fun c_7 => ?_) (fun c_7 => ?_)
  · skip
    refine lv_iload_n hx hb dX12_three_9 rfl (lv_at hl 2 rfl) ?_
    refine lv_goto (tgt := 14) hx hb dX12_three_10 (by decide) ?_
    exact W.eq (by unfold t3; rw [if_pos c_7]) (mg_1 _ _ hP hD hS)
  · skip
    refine lv_iload_n hx hb dX12_three_4 rfl (lv_at hl 2 rfl) ?_
    refine lv_iconst (v := 1) hx hb dX12_three_5 (by decide) ?_
    refine lv_icmp_ne (tgt := 13) hx hb dX12_three_6 (by decide) (fun c_8 => ?_) (fun c_8 => ?_)
    · skip
      refine lv_iconst (v := 2) hx hb dX12_three_13 (by decide) ?_
      exact W.eq (by unfold t3; rw [if_neg c_7, if_neg c_8]) (mg_1 _ _ hP hD hS)
    · skip
      refine lv_iload_n hx hb dX12_three_9 rfl (lv_at hl 2 rfl) ?_
      refine lv_goto (tgt := 14) hx hb dX12_three_10 (by decide) ?_
      exact W.eq (by unfold t3; rw [if_neg c_7, if_pos c_8]) (mg_1 _ _ hP hD hS)

