/-! what a source shows; a cell of the answer -/
def olF (wm ke : Int64) : Int64 := if (-9223372036854775808) + ke ≤ wm then wm - ke else -9223372036854775808
def shF (th : Int32) (tm wm ke : Int64) : Int32 := if th = 0 then 0 else if ke < 0 then 1 else if tm < olF wm ke then 0 else 1
theorem dX7_shows_0 : decode cX7_shows 0 = .ok (.aload_n 0, 1) := by decide +kernel
theorem dX7_shows_1 : decode cX7_shows 1 = .ok (.iload_n 1, 1) := by decide +kernel
theorem dX7_shows_2 : decode cX7_shows 2 = .ok (.iload_n 2, 1) := by decide +kernel
theorem dX7_shows_3 : decode cX7_shows 3 = .ok (.invokevirtual 62, 3) := by decide +kernel
theorem dX7_shows_6 : decode cX7_shows 6 = .ok (.ifCond .ne 5, 3) := by decide +kernel
theorem dX7_shows_9 : decode cX7_shows 9 = .ok (.iconst 0, 1) := by decide +kernel
theorem dX7_shows_10 : decode cX7_shows 10 = .ok (.ireturn, 1) := by decide +kernel
theorem dX7_shows_11 : decode cX7_shows 11 = .ok (.aload_n 0, 1) := by decide +kernel
theorem dX7_shows_12 : decode cX7_shows 12 = .ok (.getfield 13, 3) := by decide +kernel
theorem dX7_shows_15 : decode cX7_shows 15 = .ok (.ldc2_w 11, 3) := by decide +kernel
theorem dX7_shows_18 : decode cX7_shows 18 = .ok (.lload_n 3, 1) := by decide +kernel
theorem dX7_shows_19 : decode cX7_shows 19 = .ok (.ladd, 1) := by decide +kernel
theorem dX7_shows_20 : decode cX7_shows 20 = .ok (.lcmp, 1) := by decide +kernel
theorem dX7_shows_21 : decode cX7_shows 21 = .ok (.ifCond .ge 9, 3) := by decide +kernel
theorem dX7_shows_24 : decode cX7_shows 24 = .ok (.ldc2_w 11, 3) := by decide +kernel
theorem dX7_shows_27 : decode cX7_shows 27 = .ok (.goto 9, 3) := by decide +kernel
theorem dX7_shows_30 : decode cX7_shows 30 = .ok (.aload_n 0, 1) := by decide +kernel
theorem dX7_shows_31 : decode cX7_shows 31 = .ok (.getfield 13, 3) := by decide +kernel
theorem dX7_shows_34 : decode cX7_shows 34 = .ok (.lload_n 3, 1) := by decide +kernel
theorem dX7_shows_35 : decode cX7_shows 35 = .ok (.lsub, 1) := by decide +kernel
theorem dX7_shows_36 : decode cX7_shows 36 = .ok (.lstore 5, 2) := by decide +kernel
theorem dX7_shows_38 : decode cX7_shows 38 = .ok (.aload_n 0, 1) := by decide +kernel
theorem dX7_shows_39 : decode cX7_shows 39 = .ok (.getfield 23, 3) := by decide +kernel
theorem dX7_shows_42 : decode cX7_shows 42 = .ok (.iload_n 1, 1) := by decide +kernel
theorem dX7_shows_43 : decode cX7_shows 43 = .ok (.bipush 8, 2) := by decide +kernel
theorem dX7_shows_45 : decode cX7_shows 45 = .ok (.imul, 1) := by decide +kernel
theorem dX7_shows_46 : decode cX7_shows 46 = .ok (.iload_n 2, 1) := by decide +kernel
theorem dX7_shows_47 : decode cX7_shows 47 = .ok (.iadd, 1) := by decide +kernel
theorem dX7_shows_48 : decode cX7_shows 48 = .ok (.iconst 5, 1) := by decide +kernel
theorem dX7_shows_49 : decode cX7_shows 49 = .ok (.imul, 1) := by decide +kernel
theorem dX7_shows_50 : decode cX7_shows 50 = .ok (.aload_n 0, 1) := by decide +kernel
theorem dX7_shows_51 : decode cX7_shows 51 = .ok (.getfield 19, 3) := by decide +kernel
theorem dX7_shows_54 : decode cX7_shows 54 = .ok (.iload_n 1, 1) := by decide +kernel
theorem dX7_shows_55 : decode cX7_shows 55 = .ok (.iaload, 1) := by decide +kernel
theorem dX7_shows_56 : decode cX7_shows 56 = .ok (.iadd, 1) := by decide +kernel
theorem dX7_shows_57 : decode cX7_shows 57 = .ok (.laload, 1) := by decide +kernel
theorem dX7_shows_58 : decode cX7_shows 58 = .ok (.lstore 7, 2) := by decide +kernel
theorem dX7_shows_60 : decode cX7_shows 60 = .ok (.lload_n 3, 1) := by decide +kernel
theorem dX7_shows_61 : decode cX7_shows 61 = .ok (.lconst 0, 1) := by decide +kernel
theorem dX7_shows_62 : decode cX7_shows 62 = .ok (.lcmp, 1) := by decide +kernel
theorem dX7_shows_63 : decode cX7_shows 63 = .ok (.ifCond .lt 11, 3) := by decide +kernel
theorem dX7_shows_66 : decode cX7_shows 66 = .ok (.lload 7, 2) := by decide +kernel
theorem dX7_shows_68 : decode cX7_shows 68 = .ok (.lload 5, 2) := by decide +kernel
theorem dX7_shows_70 : decode cX7_shows 70 = .ok (.lcmp, 1) := by decide +kernel
theorem dX7_shows_71 : decode cX7_shows 71 = .ok (.ifCond .lt 7, 3) := by decide +kernel
theorem dX7_shows_74 : decode cX7_shows 74 = .ok (.iconst 1, 1) := by decide +kernel
theorem dX7_shows_75 : decode cX7_shows 75 = .ok (.goto 4, 3) := by decide +kernel
theorem dX7_shows_78 : decode cX7_shows 78 = .ok (.iconst 0, 1) := by decide +kernel
theorem dX7_shows_79 : decode cX7_shows 79 = .ok (.ireturn, 1) := by decide +kernel
abbrev cs_t_X7_shows (cB cI cJ cZ : ClassId) (h0 hC hV hH : Nat) (k : Nat) (cf : Nat → Int32) (vf : Nat → Int64) (tf : Nat → Int32) (wm : Int64) (wn wx wy : Value) (d : Int32) (i j n1 : Nat) (ke : Int64) : va_W := [(h0, .inr (8, [.int (nI k), .long wm, .ref hC, .ref hV, wn, .ref hH, wx, wy, .int d])), (hC, .inl (cI, 6, .inl cf)), (hV, .inl (cJ, 240, .inr (.inl vf))), (hH, .inl (cB, 48, .inl tf))]
abbrev pc_t_X7_shows (dC : Nat → ClassId) (dI : Nat → Nat → Nat) (sz : Nat) (cB cI cJ cZ : ClassId) (h0 hC hV hH : Nat) (k : Nat) (cf : Nat → Int32) (vf : Nat → Int64) (tf : Nat → Int32) (wm : Int64) (wn wx wy : Value) (d : Int32) (i j n1 : Nat) (ke : Int64) : Array Value → State → Prop := va_Pc [.ref h0, .int (nI i), .int (nI j), .long ke] (fun U => U.heap.size = sz ∧ va_P (dC, dI) vwCl [(h0, .inr (8, [.int (nI k), .long wm, .ref hC, .ref hV, wn, .ref hH, wx, wy, .int d])), (hC, .inl (cI, 6, .inl cf)), (hV, .inl (cJ, 240, .inr (.inl vf))), (hH, .inl (cB, 48, .inl tf))] U.heap ∧ va_K (dC, dI) vwCl [(cB, .byte), (cI, .int), (cJ, .long), (cZ, .boolean)] U ∧ va_D (fun _ => True) [(h0, .inr (8, [.int (nI k), .long wm, .ref hC, .ref hV, wn, .ref hH, wx, wy, .int d])), (hC, .inl (cI, 6, .inl cf)), (hV, .inl (cJ, 240, .inr (.inl vf))), (hH, .inl (cB, 48, .inl tf))])
abbrev qc_t_X7_shows (dC : Nat → ClassId) (dI : Nat → Nat → Nat) (cB cI cJ cZ : ClassId) (h0 hC hV hH : Nat) (k : Nat) (cf : Nat → Int32) (vf : Nat → Int64) (tf : Nat → Int32) (wm : Int64) (wn wx wy : Value) (d : Int32) (i j n1 : Nat) (ke : Int64) (A : Nat → Prop) : Array Value → State → Outcome → State → Prop := va_Qi (fun (r : Int32) (u : Unit) => match u with | _ => r = shF (tf (i * 8 + j)) (vf ((i * 8 + j) * 5 + n1)) wm ke) (fun (u : Unit) t_ => match u with | _ => va_P (dC, dI) vwCl [(h0, .inr (8, [.int (nI k), .long wm, .ref hC, .ref hV, wn, .ref hH, wx, wy, .int d])), (hC, .inl (cI, 6, .inl cf)), (hV, .inl (cJ, 240, .inr (.inl vf))), (hH, .inl (cB, 48, .inl tf))] t_.heap ∧ va_K (dC, dI) vwCl [(cB, .byte), (cI, .int), (cJ, .long), (cZ, .boolean)] t_ ∧ va_D A [(h0, .inr (8, [.int (nI k), .long wm, .ref hC, .ref hV, wn, .ref hH, wx, wy, .int d])), (hC, .inl (cI, 6, .inl cf)), (hV, .inl (cJ, 240, .inr (.inl vf))), (hH, .inl (cB, 48, .inl tf))]) A
set_option maxHeartbeats 4000000 in
set_option maxRecDepth 100000 in
theorem t_X7_shows (l : Launch) (dC : Nat → ClassId) (dI : Nat → Nat → Nat) (sz : Nat) (cB cI cJ cZ : ClassId) (h0 hC hV hH : Nat) (k : Nat) (cf : Nat → Int32) (vf : Nat → Int64) (tf : Nat → Int32) (wm : Int64) (wn wx wy : Value) (d : Int32) (i j n1 : Nat) (ke : Int64) (hk : k ≤ 6) (hi : i < k) (hj : j < 8) (hci : cf i = nI n1) (hn1 : n1 ≤ 4) : Met l yX7_shows (wsOf yX7_shows cX7_shows 9 (some .boolean)) ({ frames := 2, cells := 0, slots := 0, locals := 120 }) (pc_t_X7_shows dC dI sz cB cI cJ cZ h0 hC hV hH k cf vf tf wm wn wx wy d i j n1 ke) (qc_t_X7_shows dC dI cB cI cJ cZ h0 hC hV hH k cf vf tf wm wn wx wy d i j n1 ke (va_A (cs_t_X7_shows cB cI cJ cZ h0 hC hV hH k cf vf tf wm wn wx wy d i j n1 ke) sz)) 0 0 (va_A (cs_t_X7_shows cB cI cJ cZ h0 hC hV hH k cf vf tf wm wn wx wy d i j n1 ke) sz) := by
  refine Met.ofW (cc := cX7_shows) (maxL := 9) (ret := (some .boolean)) (by decide) rfl ?_
  intro p e s m args below meth c s₁ B hml hv
  obtain ⟨rfl, hsz, hP, hK, hD0⟩ := hv
  have hx := B.exec
  have hb := B.bytes
  have hr := B.returns
  have hts := atoms_spec (ws := (wsOf yX7_shows cX7_shows 9 (some .boolean))) B.pre
  have hown : s.vm.findClass RX7 = some m.cls := findClass_of_methodNamed B.named
  have hlocks := B.notSynchronized
  subst hsz
  have hD := hD0.self (sz := s.heap.size)
  generalize hAe : va_A (cs_t_X7_shows cB cI cJ cZ h0 hC hV hH k cf vf tf wm wn wx wy d i j n1 ke) s.heap.size = A at hD ⊢
  have hA : ∀ q : Nat, s.heap.size ≤ q → A q := fun q h => by rw [← hAe]; exact Or.inr h
  have hS : va_S A s.heap s.heap [] := va_S.rf
  have hP : va_P (dC, dI) vwCl [(h0, .inr (8, [.int (nI k), .long wm, .ref hC, .ref hV, wn, .ref hH, wx, wy, .int d])), (hC, .inl (cI, 6, .inl cf)), (hV, .inl (cJ, 240, .inr (.inl vf))), (hH, .inl (cB, 48, .inl tf))] s.heap := hP
  have hl := lv_entry ([.ref h0, .int (nI i), .int (nI j), .long ke]) (n := 9) (Nat.le_of_ble_eq_true rfl)
  rw [lg_entry_eq]
  generalize (lg_sl ([.ref h0, .int (nI i), .int (nI j), .long ke]) ++ List.replicate (9 - (lg_sl ([.ref h0, .int (nI i), .int (nI j), .long ke])).length) Slot.unset).toArray = ls at hl ⊢
  have hl : lv_has ls 9 [(0, .ref h0), (1, .int (nI i)), (2, .int (nI j)), (3, .long ke)] := hl
  refine lv_aload_n hx hb dX7_shows_0 rfl (lv_at hl 0 rfl) ?_
  refine lv_iload_n hx hb dX7_shows_1 rfl (lv_at hl 1 rfl) ?_
  refine lv_iload_n hx hb dX7_shows_2 rfl (lv_at hl 2 rfl) ?_
  have hPc := hP.sub (ws' := [(h0, .inr (8, [.int (nI k), .long wm, .ref hC, .ref hV, wn, .ref hH, wx, wy, .int d])), (hC, .inl (cI, 6, .inl cf)), (hH, .inl (cB, 48, .inl tf))]) [0, 1, 3] rfl
  have hDc := hD.sub (ws' := [(h0, .inr (8, [.int (nI k), .long wm, .ref hC, .ref hV, wn, .ref hH, wx, wy, .int d])), (hC, .inl (cI, 6, .inl cf)), (hH, .inl (cB, 48, .inl tf))]) [0, 1, 3] (by decide) rfl
  have hKc := hK.sub (tys' := [(cB, .byte), (cI, .int), (cJ, .long), (cZ, .boolean)]) [0, 1, 2, 3] rfl
  have hFc := va_free (wc := [(h0, .inr (8, [.int (nI k), .long wm, .ref hC, .ref hV, wn, .ref hH, wx, wy, .int d])), (hC, .inl (cI, 6, .inl cf)), (hH, .inl (cB, 48, .inl tf))]) hD hS hA [0, 1, 3] rfl
  refine va_calli (va_runV (As := [.int (nI i), .int (nI j)]) (rest := []) ⟨hx, hb, hml, hown, hts⟩ (t_X7_holds_in l dC dI s.heap.size cB cI cJ cZ h0 hC hH k cf tf wm (.ref hV) wn wx wy d i j hk hi (by omega)) (cwV 2 hts (gd_all (in_V kw_1389 kw_1390 kw_1391 kw_182 kc_X7_holds)) rfl rfl rfl (by decide +kernel) ⟨Nat.le_of_ble_eq_true rfl, Nat.le_of_ble_eq_true rfl⟩) ⟨fun a U g mk q => by obtain ⟨q0, q1, qP, qK, qD⟩ := q; exact ⟨q0, q1, qP, va_K.moved (u := U) (U := U.calling g mk a) (Vm.Alike.refl U.vm) qK, qD⟩, va_recv hKc hPc (ci := 8) (q0 := 0) rfl rfl, fun U hU hW => ⟨rfl, by rw [hU], by rw [hU]; exact hPc, va_K.moved hW.alike hKc, hDc.weaken (fun _ _ _ _ => trivial)⟩⟩ rfl rfl hl.1 rfl (lv_room (Nat.le_of_ble_eq_true rfl)) dX7_shows_3 ⟨Nat.le_of_ble_eq_true rfl, Nat.le_of_ble_eq_true rfl⟩) hS (fun q _ h => hFc q h) hFc (fun r_1 u t_ H1 locs ht hvm hw hB hz1 hk1 hS => ?_)
  obtain ⟨hP1, hK1, hD1⟩ := hB
  rw [ht] at hP1
  have hK1 := va_K.moved hvm.symm hK1
  obtain ⟨hP, hD⟩ := va_join (wr := [(hV, .inl (cJ, 240, .inr (.inl vf)))]) (w1 := [(h0, .inr (8, [.int (nI k), .long wm, .ref hC, .ref hV, wn, .ref hH, wx, wy, .int d])), (hC, .inl (cI, 6, .inl cf)), (hH, .inl (cB, 48, .inl tf))]) hP hD [0, 1, 3] [2] rfl rfl (by decide) (by decide) hk1 hFc hP1 hD1
  have hK := (hK.sub (tys' := []) [] rfl).app hK1
  generalize H1 = H at hP hS ⊢
  have hP : va_P (dC, dI) vwCl [(hV, .inl (cJ, 240, .inr (.inl vf))), (h0, .inr (8, [.int (nI k), .long wm, .ref hC, .ref hV, wn, .ref hH, wx, wy, .int d])), (hC, .inl (cI, 6, .inl cf)), (hH, .inl (cB, 48, .inl tf))] H := hP
  have hD : va_D A [(hV, .inl (cJ, 240, .inr (.inl vf))), (h0, .inr (8, [.int (nI k), .long wm, .ref hC, .ref hV, wn, .ref hH, wx, wy, .int d])), (hC, .inl (cI, 6, .inl cf)), (hH, .inl (cB, 48, .inl tf))] := hD
  have hK : va_K (dC, dI) vwCl [(cB, .byte), (cI, .int), (cJ, .long), (cZ, .boolean)] s := hK
  have er_1 : r_1 = hvI (tf (i * 8 + j)) := hw
  rw [er_1]
  refine lv_if_ne (tgt := 11) hx hb dX7_shows_6 (by decide) (fun c_2 => ?_) (fun c_2 => ?_)
  · skip
    have mg_3 : ∀ (H : Heap) (locs : List Loc), va_P (dC, dI) vwCl [(hV, .inl (cJ, 240, .inr (.inl vf))), (h0, .inr (8, [.int (nI k), .long wm, .ref hC, .ref hV, wn, .ref hH, wx, wy, .int d])), (hC, .inl (cI, 6, .inl cf)), (hH, .inl (cB, 48, .inl tf))] H → va_D A [(hV, .inl (cJ, 240, .inr (.inl vf))), (h0, .inr (8, [.int (nI k), .long wm, .ref hC, .ref hV, wn, .ref hH, wx, wy, .int d])), (hC, .inl (cI, 6, .inl cf)), (hH, .inl (cB, 48, .inl tf))] → va_S A s.heap H locs → W p l e (headSpec (wsOf yX7_shows cX7_shows 9 (some .boolean)) ({ frames := 2, cells := 0, slots := 0, locals := 120 })).room s m ([.ref h0, .int (nI i), .int (nI j), .long ke] : List Value).toArray below meth c H locs 0 0 (MQ below (qc_t_X7_shows dC dI cB cI cJ cZ h0 hC hV hH k cf vf tf wm wn wx wy d i j n1 ke A) ([.ref h0, .int (nI i), .int (nI j), .long ke] : List Value).toArray s 0 0 A) (F0 m 36 ls [.long (olF wm ke)]) := by
      intro H locs hP hD hS
      refine lv_lstore (lv' := [(5, .long (olF wm ke)), (0, .ref h0), (1, .int (nI i)), (2, .int (nI j)), (3, .long ke)]) hx hb dX7_shows_36 hl (by decide) rfl (fun ls hl => ?_)
      refine lv_aload_n hx hb dX7_shows_38 rfl (lv_at hl 1 rfl) ?_
      refine va_get (D := (dC, dI)) (ci := 8) (v := .ref hV) (C := RX7) (T := TX7) (N := 9) hx hb hts (fun w h => List.mem_cons_of_mem _ (uG_X7 w h)) hown hK hP 1 rfl rfl 3 (by decide) (hts _ (List.mem_cons_of_mem _ kw_228)) (fun _ h9 => h9) rfl dX7_shows_39 ?_
      refine lv_iload_n hx hb dX7_shows_42 rfl (lv_at hl 2 rfl) ?_
      refine lv_bipush (v := 8) hx hb dX7_shows_43 (by decide) ?_
      refine lv_imul hx hb dX7_shows_45 ?_
      refine lv_topi (fun x_4 ex_4 => ?_)
      have ex_4 : x_4 = nI (i * 8) := ex_4.trans (pk_mul i 8)
      subst ex_4
      refine lv_iload_n hx hb dX7_shows_46 rfl (lv_at hl 3 rfl) ?_
      refine lv_iadd hx hb dX7_shows_47 ?_
      refine lv_topi (fun x_5 ex_5 => ?_)
      have ex_5 : x_5 = nI (i * 8 + j) := ex_5.trans (nI_add (i * 8) j)
      subst ex_5
      refine lv_iconst (v := 5) hx hb dX7_shows_48 (by decide) ?_
      refine lv_imul hx hb dX7_shows_49 ?_
      refine lv_topi (fun x_6 ex_6 => ?_)
      have ex_6 : x_6 = nI ((i * 8 + j) * 5) := ex_6.trans (pk_mul (i * 8 + j) 5)
      subst ex_6
      refine lv_aload_n hx hb dX7_shows_50 rfl (lv_at hl 1 rfl) ?_
      refine va_get (D := (dC, dI)) (ci := 8) (v := .ref hC) (C := RX7) (T := TX7) (N := 9) hx hb hts (fun w h => List.mem_cons_of_mem _ (uG_X7 w h)) hown hK hP 1 rfl rfl 2 (by decide) (hts _ (List.mem_cons_of_mem _ kw_227)) (fun _ h9 => h9) rfl dX7_shows_51 ?_
      refine lv_iload_n hx hb dX7_shows_54 rfl (lv_at hl 2 rfl) ?_
      refine va_iald hx hb hK hP 2 1 rfl rfl (i := (nI i)) (vp_in_nI (n := i) (N := 6) (by omega) (by omega)) dX7_shows_55 ?_
      refine lv_topi (fun x_7 ex_7 => ?_)
      have ex_7 : x_7 = cf i := ex_7.trans (congrArg cf (nI_clamp (n := i) (by omega)))
      have ex_7 : x_7 = nI n1 := ex_7.trans hci
      subst ex_7
      refine lv_iadd hx hb dX7_shows_56 ?_
      refine lv_topi (fun x_8 ex_8 => ?_)
      have ex_8 : x_8 = nI ((i * 8 + j) * 5 + n1) := ex_8.trans (nI_add ((i * 8 + j) * 5) n1)
      subst ex_8
      refine va_lald hx hb hK hP 0 2 rfl rfl (i := (nI ((i * 8 + j) * 5 + n1))) (vp_in_nI (n := (i * 8 + j) * 5 + n1) (N := 240) (by omega) (by omega)) dX7_shows_57 ?_
      refine lv_topl (fun x_9 ex_9 => ?_)
      have ex_9 : x_9 = vf ((i * 8 + j) * 5 + n1) := ex_9.trans (congrArg vf (nI_clamp (n := (i * 8 + j) * 5 + n1) (by omega)))
      subst ex_9
      refine lv_lstore (lv' := [(7, .long (vf ((i * 8 + j) * 5 + n1))), (5, .long (olF wm ke)), (0, .ref h0), (1, .int (nI i)), (2, .int (nI j)), (3, .long ke)]) hx hb dX7_shows_58 hl (by decide) rfl (fun ls hl => ?_)
      refine lv_lload_n hx hb dX7_shows_60 rfl (lv_at hl 5 rfl) ?_
      refine lv_lconst (v := 0) hx hb dX7_shows_61 (by decide) ?_
      refine W.lcmp hx hb dX7_shows_62 ?_
      refine lv_if_lt (tgt := 74) hx hb dX7_shows_63 (by decide) (fun c_10 => ?_) (fun c_10 => ?_)
      · skip
        have c_10 : ke < 0 := (lg_cmp_lt ke 0).mp c_10
        refine lv_iconst (v := 1) hx hb dX7_shows_74 (by decide) ?_
        refine lv_goto (tgt := 79) hx hb dX7_shows_75 (by decide) ?_
        have hP9 := hP.sub (ws' := [(h0, .inr (8, [.int (nI k), .long wm, .ref hC, .ref hV, wn, .ref hH, wx, wy, .int d])), (hC, .inl (cI, 6, .inl cf)), (hV, .inl (cJ, 240, .inr (.inl vf))), (hH, .inl (cB, 48, .inl tf))]) [1, 2, 0, 3] rfl
        have hD9 := hD.sub (ws' := [(h0, .inr (8, [.int (nI k), .long wm, .ref hC, .ref hV, wn, .ref hH, wx, wy, .int d])), (hC, .inl (cI, 6, .inl cf)), (hV, .inl (cJ, 240, .inr (.inl vf))), (hH, .inl (cB, 48, .inl tf))]) [1, 2, 0, 3] (by decide) rfl
        have hK9 := hK.sub (tys' := [(cB, .byte), (cI, .int), (cJ, .long), (cZ, .boolean)]) [0, 1, 2, 3] rfl
        exact W.zret (v := 1) hx hb hr (by rfl) (fun t_ ht hW => ⟨⟨1, (), rfl, by unfold shF; rw [if_neg (hvI_ne c_2), if_pos c_10], by rw [ht]; exact hP9, va_K.moved hW.alike hK9, hD9⟩, hS.F ht⟩) hS.2.2 dX7_shows_79
      · skip
        have c_10 : ¬ (ke < 0) := fun h => c_10 ((lg_cmp_lt ke 0).mpr h)
        refine lv_lload hx hb dX7_shows_66 (lv_at hl 0 rfl) ?_
        refine lv_lload hx hb dX7_shows_68 (lv_at hl 1 rfl) ?_
        refine W.lcmp hx hb dX7_shows_70 ?_
        refine lv_if_lt (tgt := 78) hx hb dX7_shows_71 (by decide) (fun c_11 => ?_) (fun c_11 => ?_)
        · skip
          have c_11 : (vf ((i * 8 + j) * 5 + n1)) < (olF wm ke) := (lg_cmp_lt (vf ((i * 8 + j) * 5 + n1)) (olF wm ke)).mp c_11
          refine lv_iconst (v := 0) hx hb dX7_shows_78 (by decide) ?_
          have hP9 := hP.sub (ws' := [(h0, .inr (8, [.int (nI k), .long wm, .ref hC, .ref hV, wn, .ref hH, wx, wy, .int d])), (hC, .inl (cI, 6, .inl cf)), (hV, .inl (cJ, 240, .inr (.inl vf))), (hH, .inl (cB, 48, .inl tf))]) [1, 2, 0, 3] rfl
          have hD9 := hD.sub (ws' := [(h0, .inr (8, [.int (nI k), .long wm, .ref hC, .ref hV, wn, .ref hH, wx, wy, .int d])), (hC, .inl (cI, 6, .inl cf)), (hV, .inl (cJ, 240, .inr (.inl vf))), (hH, .inl (cB, 48, .inl tf))]) [1, 2, 0, 3] (by decide) rfl
          have hK9 := hK.sub (tys' := [(cB, .byte), (cI, .int), (cJ, .long), (cZ, .boolean)]) [0, 1, 2, 3] rfl
          exact W.zret (v := 0) hx hb hr (by rfl) (fun t_ ht hW => ⟨⟨0, (), rfl, by unfold shF; rw [if_neg (hvI_ne c_2), if_neg c_10, if_pos c_11], by rw [ht]; exact hP9, va_K.moved hW.alike hK9, hD9⟩, hS.F ht⟩) hS.2.2 dX7_shows_79
        · skip
          have c_11 : ¬ ((vf ((i * 8 + j) * 5 + n1)) < (olF wm ke)) := fun h => c_11 ((lg_cmp_lt (vf ((i * 8 + j) * 5 + n1)) (olF wm ke)).mpr h)
          refine lv_iconst (v := 1) hx hb dX7_shows_74 (by decide) ?_
          refine lv_goto (tgt := 79) hx hb dX7_shows_75 (by decide) ?_
          have hP9 := hP.sub (ws' := [(h0, .inr (8, [.int (nI k), .long wm, .ref hC, .ref hV, wn, .ref hH, wx, wy, .int d])), (hC, .inl (cI, 6, .inl cf)), (hV, .inl (cJ, 240, .inr (.inl vf))), (hH, .inl (cB, 48, .inl tf))]) [1, 2, 0, 3] rfl
          have hD9 := hD.sub (ws' := [(h0, .inr (8, [.int (nI k), .long wm, .ref hC, .ref hV, wn, .ref hH, wx, wy, .int d])), (hC, .inl (cI, 6, .inl cf)), (hV, .inl (cJ, 240, .inr (.inl vf))), (hH, .inl (cB, 48, .inl tf))]) [1, 2, 0, 3] (by decide) rfl
          have hK9 := hK.sub (tys' := [(cB, .byte), (cI, .int), (cJ, .long), (cZ, .boolean)]) [0, 1, 2, 3] rfl
          exact W.zret (v := 1) hx hb hr (by rfl) (fun t_ ht hW => ⟨⟨1, (), rfl, by unfold shF; rw [if_neg (hvI_ne c_2), if_neg c_10, if_neg c_11], by rw [ht]; exact hP9, va_K.moved hW.alike hK9, hD9⟩, hS.F ht⟩) hS.2.2 dX7_shows_79
    refine lv_aload_n hx hb dX7_shows_11 rfl (lv_at hl 0 rfl) ?_
    refine va_get (D := (dC, dI)) (ci := 8) (v := .long wm) (C := RX7) (T := TX7) (N := 9) hx hb hts (fun w h => List.mem_cons_of_mem _ (uG_X7 w h)) hown hK hP 1 rfl rfl 1 (by decide) (hts _ (List.mem_cons_of_mem _ kw_225)) (fun _ h9 => h9) rfl dX7_shows_12 ?_
    refine lv_ldc2 hx hb hown (hts _ (List.mem_cons_of_mem _ kw_222)) dX7_shows_15 ?_
    refine lv_lload_n hx hb dX7_shows_18 rfl (lv_at hl 3 rfl) ?_
    refine lv_ladd hx hb dX7_shows_19 ?_
    refine W.lcmp hx hb dX7_shows_20 ?_
    refine lv_if_ge (tgt := 30) hx hb dX7_shows_21 (by decide) (fun c_12 => ?_) (fun c_12 => ?_)
    · skip
      have c_12 : ((-9223372036854775808) + ke) ≤ wm := (lg_cmp_ge wm ((-9223372036854775808) + ke)).mp c_12
      refine lv_aload_n hx hb dX7_shows_30 rfl (lv_at hl 0 rfl) ?_
      refine va_get (D := (dC, dI)) (ci := 8) (v := .long wm) (C := RX7) (T := TX7) (N := 9) hx hb hts (fun w h => List.mem_cons_of_mem _ (uG_X7 w h)) hown hK hP 1 rfl rfl 1 (by decide) (hts _ (List.mem_cons_of_mem _ kw_225)) (fun _ h9 => h9) rfl dX7_shows_31 ?_
      refine lv_lload_n hx hb dX7_shows_34 rfl (lv_at hl 3 rfl) ?_
      refine lv_lsub hx hb dX7_shows_35 ?_
      exact W.eq (by unfold olF; rw [if_pos c_12]) (mg_3 _ _ hP hD hS)
    · skip
      have c_12 : ¬ (((-9223372036854775808) + ke) ≤ wm) := fun h => c_12 ((lg_cmp_ge wm ((-9223372036854775808) + ke)).mpr h)
      refine lv_ldc2 hx hb hown (hts _ (List.mem_cons_of_mem _ kw_222)) dX7_shows_24 ?_
      refine lv_goto (tgt := 36) hx hb dX7_shows_27 (by decide) ?_
      exact W.eq (by unfold olF; rw [if_neg c_12]) (mg_3 _ _ hP hD hS)
  · skip
    refine lv_iconst (v := 0) hx hb dX7_shows_9 (by decide) ?_
    have hP9 := hP.sub (ws' := [(h0, .inr (8, [.int (nI k), .long wm, .ref hC, .ref hV, wn, .ref hH, wx, wy, .int d])), (hC, .inl (cI, 6, .inl cf)), (hV, .inl (cJ, 240, .inr (.inl vf))), (hH, .inl (cB, 48, .inl tf))]) [1, 2, 0, 3] rfl
    have hD9 := hD.sub (ws' := [(h0, .inr (8, [.int (nI k), .long wm, .ref hC, .ref hV, wn, .ref hH, wx, wy, .int d])), (hC, .inl (cI, 6, .inl cf)), (hV, .inl (cJ, 240, .inr (.inl vf))), (hH, .inl (cB, 48, .inl tf))]) [1, 2, 0, 3] (by decide) rfl
    have hK9 := hK.sub (tys' := [(cB, .byte), (cI, .int), (cJ, .long), (cZ, .boolean)]) [0, 1, 2, 3] rfl
    exact W.zret (v := 0) hx hb hr (by rfl) (fun t_ ht hW => ⟨⟨0, (), rfl, by unfold shF; rw [if_pos (hvI_eq c_2)], by rw [ht]; exact hP9, va_K.moved hW.alike hK9, hD9⟩, hS.F ht⟩) hS.2.2 dX7_shows_10
theorem dX8_take_0 : decode cX8_take 0 = .ok (.aload_n 0, 1) := by decide +kernel
theorem dX8_take_1 : decode cX8_take 1 = .ok (.iload_n 2, 1) := by decide +kernel
theorem dX8_take_2 : decode cX8_take 2 = .ok (.invokevirtual 39, 3) := by decide +kernel
theorem dX8_take_5 : decode cX8_take 5 = .ok (.iload_n 2, 1) := by decide +kernel
theorem dX8_take_6 : decode cX8_take 6 = .ok (.ifCond .le 51, 3) := by decide +kernel
theorem dX8_take_9 : decode cX8_take 9 = .ok (.aload_n 0, 1) := by decide +kernel
theorem dX8_take_10 : decode cX8_take 10 = .ok (.iload_n 2, 1) := by decide +kernel
theorem dX8_take_11 : decode cX8_take 11 = .ok (.iconst 1, 1) := by decide +kernel
theorem dX8_take_12 : decode cX8_take 12 = .ok (.isub, 1) := by decide +kernel
theorem dX8_take_13 : decode cX8_take 13 = .ok (.invokevirtual 35, 3) := by decide +kernel
theorem dX8_take_16 : decode cX8_take 16 = .ok (.ifCond .eq 41, 3) := by decide +kernel
theorem dX8_take_19 : decode cX8_take 19 = .ok (.aload_n 1, 1) := by decide +kernel
theorem dX8_take_20 : decode cX8_take 20 = .ok (.iload_n 2, 1) := by decide +kernel
theorem dX8_take_21 : decode cX8_take 21 = .ok (.iconst 1, 1) := by decide +kernel
theorem dX8_take_22 : decode cX8_take 22 = .ok (.isub, 1) := by decide +kernel
theorem dX8_take_23 : decode cX8_take 23 = .ok (.invokevirtual 35, 3) := by decide +kernel
theorem dX8_take_26 : decode cX8_take 26 = .ok (.ifCond .eq 31, 3) := by decide +kernel
theorem dX8_take_29 : decode cX8_take 29 = .ok (.aload_n 1, 1) := by decide +kernel
theorem dX8_take_30 : decode cX8_take 30 = .ok (.getfield 11, 3) := by decide +kernel
theorem dX8_take_33 : decode cX8_take 33 = .ok (.iconst 0, 1) := by decide +kernel
theorem dX8_take_34 : decode cX8_take 34 = .ok (.aload_n 0, 1) := by decide +kernel
theorem dX8_take_35 : decode cX8_take 35 = .ok (.getfield 11, 3) := by decide +kernel
theorem dX8_take_38 : decode cX8_take 38 = .ok (.iconst 0, 1) := by decide +kernel
theorem dX8_take_39 : decode cX8_take 39 = .ok (.iload_n 2, 1) := by decide +kernel
theorem dX8_take_40 : decode cX8_take 40 = .ok (.invokestatic 49, 3) := by decide +kernel
theorem dX8_take_43 : decode cX8_take 43 = .ok (.aload_n 1, 1) := by decide +kernel
theorem dX8_take_44 : decode cX8_take 44 = .ok (.getfield 15, 3) := by decide +kernel
theorem dX8_take_47 : decode cX8_take 47 = .ok (.iconst 0, 1) := by decide +kernel
theorem dX8_take_48 : decode cX8_take 48 = .ok (.aload_n 0, 1) := by decide +kernel
theorem dX8_take_49 : decode cX8_take 49 = .ok (.getfield 15, 3) := by decide +kernel
theorem dX8_take_52 : decode cX8_take 52 = .ok (.iconst 0, 1) := by decide +kernel
theorem dX8_take_53 : decode cX8_take 53 = .ok (.iload_n 2, 1) := by decide +kernel
theorem dX8_take_54 : decode cX8_take 54 = .ok (.invokestatic 49, 3) := by decide +kernel
theorem dX8_take_57 : decode cX8_take 57 = .ok (.return_, 1) := by decide +kernel
abbrev cs_t_X8_take_n (cB cI cJ cZ : ClassId) (h0 hV hB n : Nat) (v1 : Nat → Int64) (b1 : Nat → Int32) (wo wp : Value) (h1 hU hE n2 : Nat) (v2 : Nat → Int64) (b2 : Nat → Int32) (xo xp : Value) (c1 : Nat) : va_W := [(h0, .inr (9, [.ref hV, .ref hB, wo, wp])), (hV, .inl (cJ, n, .inr (.inl v1))), (hB, .inl (cB, n, .inl b1)), (h1, .inr (9, [.ref hU, .ref hE, xo, xp])), (hU, .inl (cJ, n2, .inr (.inl v2))), (hE, .inl (cB, n2, .inl b2))]
abbrev pc_t_X8_take_n (dC : Nat → ClassId) (dI : Nat → Nat → Nat) (sz : Nat) (cB cI cJ cZ : ClassId) (h0 hV hB n : Nat) (v1 : Nat → Int64) (b1 : Nat → Int32) (wo wp : Value) (h1 hU hE n2 : Nat) (v2 : Nat → Int64) (b2 : Nat → Int32) (xo xp : Value) (c1 : Nat) : Array Value → State → Prop := va_Pc [.ref h0, .ref h1, .int (nI c1)] (fun U => U.heap.size = sz ∧ va_P (dC, dI) vwCl [(h0, .inr (9, [.ref hV, .ref hB, wo, wp])), (hV, .inl (cJ, n, .inr (.inl v1))), (hB, .inl (cB, n, .inl b1)), (h1, .inr (9, [.ref hU, .ref hE, xo, xp])), (hU, .inl (cJ, n2, .inr (.inl v2))), (hE, .inl (cB, n2, .inl b2))] U.heap ∧ va_K (dC, dI) vwCl [(cB, .byte), (cI, .int), (cJ, .long), (cZ, .boolean)] U ∧ va_D (fun _ => True) [(h0, .inr (9, [.ref hV, .ref hB, wo, wp])), (hV, .inl (cJ, n, .inr (.inl v1))), (hB, .inl (cB, n, .inl b1)), (h1, .inr (9, [.ref hU, .ref hE, xo, xp])), (hU, .inl (cJ, n2, .inr (.inl v2))), (hE, .inl (cB, n2, .inl b2))])
abbrev qc_t_X8_take_n (dC : Nat → ClassId) (dI : Nat → Nat → Nat) (cB cI cJ cZ : ClassId) (h0 hV hB n : Nat) (v1 : Nat → Int64) (b1 : Nat → Int32) (wo wp : Value) (h1 hU hE n2 : Nat) (v2 : Nat → Int64) (b2 : Nat → Int32) (xo xp : Value) (c1 : Nat) (A : Nat → Prop) : Array Value → State → Outcome → State → Prop := va_Qv (fun (u : Unit) => match u with | _ => True) (fun (u : Unit) t_ => match u with | _ => va_P (dC, dI) vwCl [(h0, .inr (9, [.ref hV, .ref hB, wo, wp])), (hV, .inl (cJ, n, .inr (.inl (va_cpy v2 v1 0 0 c1)))), (hB, .inl (cB, n, .inl (va_cpy b2 b1 0 0 c1))), (h1, .inr (9, [.ref hU, .ref hE, xo, xp])), (hU, .inl (cJ, n2, .inr (.inl v2))), (hE, .inl (cB, n2, .inl b2))] t_.heap ∧ va_K (dC, dI) vwCl [(cB, .byte), (cI, .int), (cJ, .long), (cZ, .boolean)] t_ ∧ va_D A [(h0, .inr (9, [.ref hV, .ref hB, wo, wp])), (hV, .inl (cJ, n, .inr (.inl (va_cpy v2 v1 0 0 c1)))), (hB, .inl (cB, n, .inl (va_cpy b2 b1 0 0 c1))), (h1, .inr (9, [.ref hU, .ref hE, xo, xp])), (hU, .inl (cJ, n2, .inr (.inl v2))), (hE, .inl (cB, n2, .inl b2))]) A
set_option maxHeartbeats 4000000 in
set_option maxRecDepth 100000 in
theorem t_X8_take_n (l : Launch) (dC : Nat → ClassId) (dI : Nat → Nat → Nat) (sz : Nat) (cB cI cJ cZ : ClassId) (h0 hV hB n : Nat) (v1 : Nat → Int64) (b1 : Nat → Int32) (wo wp : Value) (h1 hU hE n2 : Nat) (v2 : Nat → Int64) (b2 : Nat → Int32) (xo xp : Value) (c1 : Nat) (hn : n < 500000) (hn2 : n2 < 500000) (hc : c1 ≤ n) (hc2 : c1 ≤ n2) (hc0 : 0 < c1) (hy : sb_Fit b2) : Met l yX8_take (wsOf yX8_take cX8_take 3 none) ({ frames := 1, cells := 0, slots := 0, locals := 60 }) (pc_t_X8_take_n dC dI sz cB cI cJ cZ h0 hV hB n v1 b1 wo wp h1 hU hE n2 v2 b2 xo xp c1) (qc_t_X8_take_n dC dI cB cI cJ cZ h0 hV hB n v1 b1 wo wp h1 hU hE n2 v2 b2 xo xp c1 (va_A (cs_t_X8_take_n cB cI cJ cZ h0 hV hB n v1 b1 wo wp h1 hU hE n2 v2 b2 xo xp c1) sz)) 0 0 (va_A (cs_t_X8_take_n cB cI cJ cZ h0 hV hB n v1 b1 wo wp h1 hU hE n2 v2 b2 xo xp c1) sz) := by
  refine Met.ofW (cc := cX8_take) (maxL := 3) (ret := none) (by decide) rfl ?_
  intro p e s m args below meth c s₁ B hml hv
  obtain ⟨rfl, hsz, hP, hK, hD0⟩ := hv
  have hx := B.exec
  have hb := B.bytes
  have hr := B.returns
  have hts := atoms_spec (ws := (wsOf yX8_take cX8_take 3 none)) B.pre
  have hown : s.vm.findClass RX8 = some m.cls := findClass_of_methodNamed B.named
  have hlocks := B.notSynchronized
  subst hsz
  have hD := hD0.self (sz := s.heap.size)
  generalize hAe : va_A (cs_t_X8_take_n cB cI cJ cZ h0 hV hB n v1 b1 wo wp h1 hU hE n2 v2 b2 xo xp c1) s.heap.size = A at hD ⊢
  have hA : ∀ q : Nat, s.heap.size ≤ q → A q := fun q h => by rw [← hAe]; exact Or.inr h
  have hS : va_S A s.heap s.heap [] := va_S.rf
  have hP : va_P (dC, dI) vwCl [(h0, .inr (9, [.ref hV, .ref hB, wo, wp])), (hV, .inl (cJ, n, .inr (.inl v1))), (hB, .inl (cB, n, .inl b1)), (h1, .inr (9, [.ref hU, .ref hE, xo, xp])), (hU, .inl (cJ, n2, .inr (.inl v2))), (hE, .inl (cB, n2, .inl b2))] s.heap := hP
  have hl := lv_entry ([.ref h0, .ref h1, .int (nI c1)]) (n := 3) (Nat.le_of_ble_eq_true rfl)
  rw [lg_entry_eq]
  generalize (lg_sl ([.ref h0, .ref h1, .int (nI c1)]) ++ List.replicate (3 - (lg_sl ([.ref h0, .ref h1, .int (nI c1)])).length) Slot.unset).toArray = ls at hl ⊢
  have hl : lv_has ls 3 [(0, .ref h0), (1, .ref h1), (2, .int (nI c1))] := hl
  refine lv_aload_n hx hb dX8_take_0 rfl (lv_at hl 0 rfl) ?_
  refine lv_iload_n hx hb dX8_take_1 rfl (lv_at hl 2 rfl) ?_
  have hPc := hP.sub (ws' := [(h0, .inr (9, [.ref hV, .ref hB, wo, wp])), (hV, .inl (cJ, n, .inr (.inl v1))), (hB, .inl (cB, n, .inl b1))]) [0, 1, 2] rfl
  have hDc := hD.sub (ws' := [(h0, .inr (9, [.ref hV, .ref hB, wo, wp])), (hV, .inl (cJ, n, .inr (.inl v1))), (hB, .inl (cB, n, .inl b1))]) [0, 1, 2] (by decide) rfl
  have hKc := hK.sub (tys' := [(cB, .byte), (cI, .int), (cJ, .long), (cZ, .boolean)]) [0, 1, 2, 3] rfl
  have hFc := va_free (wc := [(h0, .inr (9, [.ref hV, .ref hB, wo, wp])), (hV, .inl (cJ, n, .inr (.inl v1))), (hB, .inl (cB, n, .inl b1))]) hD hS hA [0, 1, 2] rfl
  refine va_callv (va_runV (As := [.int (nI c1)]) (rest := []) ⟨hx, hb, hml, hown, hts⟩ (t_X8_reserve_n l dC dI s.heap.size cB cI cJ cZ h0 hV hB n v1 b1 wo wp c1 hn hc) (cwV 1 hts (gd_all (in_V kw_1338 kw_1339 kw_1340 kw_188 kc_X8_reserve)) rfl rfl rfl (by decide +kernel) ⟨Nat.le_of_ble_eq_true rfl, Nat.le_of_ble_eq_true rfl⟩) ⟨fun a U g mk q => by obtain ⟨q0, q1, qP, qK, qD⟩ := q; exact ⟨q0, q1, qP, va_K.moved (u := U) (U := U.calling g mk a) (Vm.Alike.refl U.vm) qK, qD⟩, va_recv hKc hPc (ci := 9) (q0 := 0) rfl rfl, fun U hU hW => ⟨rfl, by rw [hU], by rw [hU]; exact hPc, va_K.moved hW.alike hKc, hDc.weaken (fun _ _ _ _ => trivial)⟩⟩ rfl rfl hl.1 rfl (lv_room (Nat.le_of_ble_eq_true rfl)) dX8_take_2 ⟨Nat.le_of_ble_eq_true rfl, Nat.le_of_ble_eq_true rfl⟩) hS (fun q _ h => hFc q h) hFc (fun u t_ H1 locs ht hvm hw hB hz1 hk1 hS => ?_)
  obtain ⟨hP1, hK1, hD1⟩ := hB
  rw [ht] at hP1
  have hK1 := va_K.moved hvm.symm hK1
  obtain ⟨hP, hD⟩ := va_join (wr := [(h1, .inr (9, [.ref hU, .ref hE, xo, xp])), (hU, .inl (cJ, n2, .inr (.inl v2))), (hE, .inl (cB, n2, .inl b2))]) (w1 := [(h0, .inr (9, [.ref hV, .ref hB, wo, wp])), (hV, .inl (cJ, n, .inr (.inl v1))), (hB, .inl (cB, n, .inl b1))]) hP hD [0, 1, 2] [3, 4, 5] rfl rfl (by decide) (by decide) hk1 hFc hP1 hD1
  have hK := (hK.sub (tys' := []) [] rfl).app hK1
  generalize H1 = H at hP hS ⊢
  have hP : va_P (dC, dI) vwCl [(h1, .inr (9, [.ref hU, .ref hE, xo, xp])), (hU, .inl (cJ, n2, .inr (.inl v2))), (hE, .inl (cB, n2, .inl b2)), (h0, .inr (9, [.ref hV, .ref hB, wo, wp])), (hV, .inl (cJ, n, .inr (.inl v1))), (hB, .inl (cB, n, .inl b1))] H := hP
  have hD : va_D A [(h1, .inr (9, [.ref hU, .ref hE, xo, xp])), (hU, .inl (cJ, n2, .inr (.inl v2))), (hE, .inl (cB, n2, .inl b2)), (h0, .inr (9, [.ref hV, .ref hB, wo, wp])), (hV, .inl (cJ, n, .inr (.inl v1))), (hB, .inl (cB, n, .inl b1))] := hD
  have hK : va_K (dC, dI) vwCl [(cB, .byte), (cI, .int), (cJ, .long), (cZ, .boolean)] s := hK
  refine lv_iload_n hx hb dX8_take_5 rfl (lv_at hl 2 rfl) ?_
  refine lv_if_le (tgt := 57) hx hb dX8_take_6 (by decide) (fun c_2 => ?_) (fun c_2 => ?_)
  · skip
    have c_2 : c1 ≤ 0 := (nI_leI (a := c1) (b := 0) (by omega) (by omega)).mp c_2
    exact absurd c_2 (by omega)
  · skip
    have c_2 : ¬ (c1 ≤ 0) := fun h => c_2 ((nI_leI (a := c1) (b := 0) (by omega) (by omega)).mpr h)
    refine lv_aload_n hx hb dX8_take_9 rfl (lv_at hl 0 rfl) ?_
    refine lv_iload_n hx hb dX8_take_10 rfl (lv_at hl 2 rfl) ?_
    refine lv_iconst (v := 1) hx hb dX8_take_11 (by decide) ?_
    refine lv_isub hx hb dX8_take_12 ?_
    refine lv_topi (fun x_3 ex_3 => ?_)
    have ex_3 : x_3 = nI (c1 - 1) := ex_3.trans (pk_sub (a := c1) (b := 1) (by omega))
    subst ex_3
    have hPc := hP.sub (ws' := [(h0, .inr (9, [.ref hV, .ref hB, wo, wp])), (hV, .inl (cJ, n, .inr (.inl v1))), (hB, .inl (cB, n, .inl b1))]) [3, 4, 5] rfl
    have hDc := hD.sub (ws' := [(h0, .inr (9, [.ref hV, .ref hB, wo, wp])), (hV, .inl (cJ, n, .inr (.inl v1))), (hB, .inl (cB, n, .inl b1))]) [3, 4, 5] (by decide) rfl
    have hKc := hK.sub (tys' := [(cB, .byte), (cI, .int), (cJ, .long), (cZ, .boolean)]) [0, 1, 2, 3] rfl
    have hFc := va_free (wc := [(h0, .inr (9, [.ref hV, .ref hB, wo, wp])), (hV, .inl (cJ, n, .inr (.inl v1))), (hB, .inl (cB, n, .inl b1))]) hD hS hA [3, 4, 5] rfl
    refine va_calli (va_runV (As := [.int (nI (c1 - 1))]) (rest := []) ⟨hx, hb, hml, hown, hts⟩ (t_X8_holds l dC dI H.size cB cI cJ cZ h0 hV hB n v1 b1 wo wp (c1 - 1) (by omega) (by omega)) (cwV 1 hts (gd_all (in_V kw_1360 kw_1362 kw_67 kw_188 kc_X8_holds)) rfl rfl rfl (by decide +kernel) ⟨Nat.le_of_ble_eq_true rfl, Nat.le_of_ble_eq_true rfl⟩) ⟨fun a U g mk q => by obtain ⟨q0, q1, qP, qK, qD⟩ := q; exact ⟨q0, q1, qP, va_K.moved (u := U) (U := U.calling g mk a) (Vm.Alike.refl U.vm) qK, qD⟩, va_recv hKc hPc (ci := 9) (q0 := 0) rfl rfl, fun U hU hW => ⟨rfl, by rw [hU], by rw [hU]; exact hPc, va_K.moved hW.alike hKc, hDc.weaken (fun _ _ _ _ => trivial)⟩⟩ rfl rfl hl.1 rfl (lv_room (Nat.le_of_ble_eq_true rfl)) dX8_take_13 ⟨Nat.le_of_ble_eq_true rfl, Nat.le_of_ble_eq_true rfl⟩) hS (fun q _ h => hFc q h) hFc (fun r_4 u t_ H1 locs ht hvm hw hB hz1 hk1 hS => ?_)
    obtain ⟨hP1, hK1, hD1⟩ := hB
    rw [ht] at hP1
    have hK1 := va_K.moved hvm.symm hK1
    obtain ⟨hP, hD⟩ := va_join (wr := [(h1, .inr (9, [.ref hU, .ref hE, xo, xp])), (hU, .inl (cJ, n2, .inr (.inl v2))), (hE, .inl (cB, n2, .inl b2))]) (w1 := [(h0, .inr (9, [.ref hV, .ref hB, wo, wp])), (hV, .inl (cJ, n, .inr (.inl v1))), (hB, .inl (cB, n, .inl b1))]) hP hD [3, 4, 5] [0, 1, 2] rfl rfl (by decide) (by decide) hk1 hFc hP1 hD1
    have hK := (hK.sub (tys' := []) [] rfl).app hK1
    generalize H1 = H at hP hS ⊢
    have hP : va_P (dC, dI) vwCl [(h1, .inr (9, [.ref hU, .ref hE, xo, xp])), (hU, .inl (cJ, n2, .inr (.inl v2))), (hE, .inl (cB, n2, .inl b2)), (h0, .inr (9, [.ref hV, .ref hB, wo, wp])), (hV, .inl (cJ, n, .inr (.inl v1))), (hB, .inl (cB, n, .inl b1))] H := hP
    have hD : va_D A [(h1, .inr (9, [.ref hU, .ref hE, xo, xp])), (hU, .inl (cJ, n2, .inr (.inl v2))), (hE, .inl (cB, n2, .inl b2)), (h0, .inr (9, [.ref hV, .ref hB, wo, wp])), (hV, .inl (cJ, n, .inr (.inl v1))), (hB, .inl (cB, n, .inl b1))] := hD
    have hK : va_K (dC, dI) vwCl [(cB, .byte), (cI, .int), (cJ, .long), (cZ, .boolean)] s := hK
    have er_4 : r_4 = 1 := hw
    rw [er_4]
    refine lv_if_eq (tgt := 57) hx hb dX8_take_16 (by decide) (fun c_5 => ?_) (fun c_5 => ?_)
    · skip
      exact absurd c_5 (by decide)
    · skip
      refine lv_aload_n hx hb dX8_take_19 rfl (lv_at hl 1 rfl) ?_
      refine lv_iload_n hx hb dX8_take_20 rfl (lv_at hl 2 rfl) ?_
      refine lv_iconst (v := 1) hx hb dX8_take_21 (by decide) ?_
      refine lv_isub hx hb dX8_take_22 ?_
      refine lv_topi (fun x_6 ex_6 => ?_)
      have ex_6 : x_6 = nI (c1 - 1) := ex_6.trans (pk_sub (a := c1) (b := 1) (by omega))
      subst ex_6
      have hPc := hP.sub (ws' := [(h1, .inr (9, [.ref hU, .ref hE, xo, xp])), (hU, .inl (cJ, n2, .inr (.inl v2))), (hE, .inl (cB, n2, .inl b2))]) [0, 1, 2] rfl
      have hDc := hD.sub (ws' := [(h1, .inr (9, [.ref hU, .ref hE, xo, xp])), (hU, .inl (cJ, n2, .inr (.inl v2))), (hE, .inl (cB, n2, .inl b2))]) [0, 1, 2] (by decide) rfl
      have hKc := hK.sub (tys' := [(cB, .byte), (cI, .int), (cJ, .long), (cZ, .boolean)]) [0, 1, 2, 3] rfl
      have hFc := va_free (wc := [(h1, .inr (9, [.ref hU, .ref hE, xo, xp])), (hU, .inl (cJ, n2, .inr (.inl v2))), (hE, .inl (cB, n2, .inl b2))]) hD hS hA [0, 1, 2] rfl
      refine va_calli (va_runV (As := [.int (nI (c1 - 1))]) (rest := []) ⟨hx, hb, hml, hown, hts⟩ (t_X8_holds l dC dI H.size cB cI cJ cZ h1 hU hE n2 v2 b2 xo xp (c1 - 1) (by omega) (by omega)) (cwV 1 hts (gd_all (in_V kw_1360 kw_1362 kw_67 kw_188 kc_X8_holds)) rfl rfl rfl (by decide +kernel) ⟨Nat.le_of_ble_eq_true rfl, Nat.le_of_ble_eq_true rfl⟩) ⟨fun a U g mk q => by obtain ⟨q0, q1, qP, qK, qD⟩ := q; exact ⟨q0, q1, qP, va_K.moved (u := U) (U := U.calling g mk a) (Vm.Alike.refl U.vm) qK, qD⟩, va_recv hKc hPc (ci := 9) (q0 := 0) rfl rfl, fun U hU hW => ⟨rfl, by rw [hU], by rw [hU]; exact hPc, va_K.moved hW.alike hKc, hDc.weaken (fun _ _ _ _ => trivial)⟩⟩ rfl rfl hl.1 rfl (lv_room (Nat.le_of_ble_eq_true rfl)) dX8_take_23 ⟨Nat.le_of_ble_eq_true rfl, Nat.le_of_ble_eq_true rfl⟩) hS (fun q _ h => hFc q h) hFc (fun r_7 u t_ H1 locs ht hvm hw hB hz1 hk1 hS => ?_)
      obtain ⟨hP1, hK1, hD1⟩ := hB
      rw [ht] at hP1
      have hK1 := va_K.moved hvm.symm hK1
      obtain ⟨hP, hD⟩ := va_join (wr := [(h0, .inr (9, [.ref hV, .ref hB, wo, wp])), (hV, .inl (cJ, n, .inr (.inl v1))), (hB, .inl (cB, n, .inl b1))]) (w1 := [(h1, .inr (9, [.ref hU, .ref hE, xo, xp])), (hU, .inl (cJ, n2, .inr (.inl v2))), (hE, .inl (cB, n2, .inl b2))]) hP hD [0, 1, 2] [3, 4, 5] rfl rfl (by decide) (by decide) hk1 hFc hP1 hD1
      have hK := (hK.sub (tys' := []) [] rfl).app hK1
      generalize H1 = H at hP hS ⊢
      have hP : va_P (dC, dI) vwCl [(h0, .inr (9, [.ref hV, .ref hB, wo, wp])), (hV, .inl (cJ, n, .inr (.inl v1))), (hB, .inl (cB, n, .inl b1)), (h1, .inr (9, [.ref hU, .ref hE, xo, xp])), (hU, .inl (cJ, n2, .inr (.inl v2))), (hE, .inl (cB, n2, .inl b2))] H := hP
      have hD : va_D A [(h0, .inr (9, [.ref hV, .ref hB, wo, wp])), (hV, .inl (cJ, n, .inr (.inl v1))), (hB, .inl (cB, n, .inl b1)), (h1, .inr (9, [.ref hU, .ref hE, xo, xp])), (hU, .inl (cJ, n2, .inr (.inl v2))), (hE, .inl (cB, n2, .inl b2))] := hD
      have hK : va_K (dC, dI) vwCl [(cB, .byte), (cI, .int), (cJ, .long), (cZ, .boolean)] s := hK
      have er_7 : r_7 = 1 := hw
      rw [er_7]
      refine lv_if_eq (tgt := 57) hx hb dX8_take_26 (by decide) (fun c_8 => ?_) (fun c_8 => ?_)
      · skip
        exact absurd c_8 (by decide)
      · skip
        refine lv_aload_n hx hb dX8_take_29 rfl (lv_at hl 1 rfl) ?_
        refine va_get (D := (dC, dI)) (ci := 9) (v := .ref hU) (C := RX8) (T := TX8) (N := 4) hx hb hts (fun w h => List.mem_cons_of_mem _ (uG_X8 w h)) hown hK hP 3 rfl rfl 0 (by decide) (hts _ (List.mem_cons_of_mem _ kw_349)) (fun _ h9 => h9) rfl dX8_take_30 ?_
        refine lv_iconst (v := 0) hx hb dX8_take_33 (by decide) ?_
        refine lv_aload_n hx hb dX8_take_34 rfl (lv_at hl 0 rfl) ?_
        refine va_get (D := (dC, dI)) (ci := 9) (v := .ref hV) (C := RX8) (T := TX8) (N := 4) hx hb hts (fun w h => List.mem_cons_of_mem _ (uG_X8 w h)) hown hK hP 0 rfl rfl 0 (by decide) (hts _ (List.mem_cons_of_mem _ kw_349)) (fun _ h9 => h9) rfl dX8_take_35 ?_
        refine lv_iconst (v := 0) hx hb dX8_take_38 (by decide) ?_
        refine lv_iload_n hx hb dX8_take_39 rfl (lv_at hl 2 rfl) ?_
        refine va_copyl (n := (nI c1)) (dp := 0) (sp := 0) hx hb (hml.trans hl.1.symm) hown (hts _ (List.mem_cons_of_mem _ kw_1364)) (hts _ (List.mem_cons_of_mem _ kw_820)) (hts _ (List.mem_cons_of_mem _ kw_819)) (hts _ (List.mem_cons_of_mem _ kw_202)) hK hP hD hS 4 1 2 2 rfl rfl rfl rfl rfl (nI_pos (n := 0) (by omega)) (nI_pos (n := 0) (by omega)) (nI_pos (n := c1) (by omega)) (by rw [show (0 : Int32).toNatClampNeg = 0 from nI_clamp (n := 0) (by omega), show (nI c1).toNatClampNeg = c1 from nI_clamp (n := c1) (by omega)]; omega) (by rw [show (0 : Int32).toNatClampNeg = 0 from nI_clamp (n := 0) (by omega), show (nI c1).toNatClampNeg = c1 from nI_clamp (n := c1) (by omega)]; omega) (fun _ _ => rfl) (Nat.le_of_ble_eq_true rfl) (Nat.le_of_ble_eq_true rfl) dX8_take_40 (fun H locs hP hD hS => ?_)
        rw [show (0 : Int32).toNatClampNeg = 0 from nI_clamp (n := 0) (by omega), show (nI c1).toNatClampNeg = c1 from nI_clamp (n := c1) (by omega)] at hP hD
        have hP : va_P (dC, dI) vwCl [(h0, .inr (9, [.ref hV, .ref hB, wo, wp])), (hV, .inl (cJ, n, .inr (.inl (va_cpy v2 v1 0 0 c1)))), (hB, .inl (cB, n, .inl b1)), (h1, .inr (9, [.ref hU, .ref hE, xo, xp])), (hU, .inl (cJ, n2, .inr (.inl v2))), (hE, .inl (cB, n2, .inl b2))] H := hP
        have hD : va_D A [(h0, .inr (9, [.ref hV, .ref hB, wo, wp])), (hV, .inl (cJ, n, .inr (.inl (va_cpy v2 v1 0 0 c1)))), (hB, .inl (cB, n, .inl b1)), (h1, .inr (9, [.ref hU, .ref hE, xo, xp])), (hU, .inl (cJ, n2, .inr (.inl v2))), (hE, .inl (cB, n2, .inl b2))] := hD
        refine lv_aload_n hx hb dX8_take_43 rfl (lv_at hl 1 rfl) ?_
        refine va_get (D := (dC, dI)) (ci := 9) (v := .ref hE) (C := RX8) (T := TX8) (N := 4) hx hb hts (fun w h => List.mem_cons_of_mem _ (uG_X8 w h)) hown hK hP 3 rfl rfl 1 (by decide) (hts _ (List.mem_cons_of_mem _ kw_350)) (fun _ h9 => h9) rfl dX8_take_44 ?_
        refine lv_iconst (v := 0) hx hb dX8_take_47 (by decide) ?_
        refine lv_aload_n hx hb dX8_take_48 rfl (lv_at hl 0 rfl) ?_
        refine va_get (D := (dC, dI)) (ci := 9) (v := .ref hB) (C := RX8) (T := TX8) (N := 4) hx hb hts (fun w h => List.mem_cons_of_mem _ (uG_X8 w h)) hown hK hP 0 rfl rfl 1 (by decide) (hts _ (List.mem_cons_of_mem _ kw_350)) (fun _ h9 => h9) rfl dX8_take_49 ?_
        refine lv_iconst (v := 0) hx hb dX8_take_52 (by decide) ?_
        refine lv_iload_n hx hb dX8_take_53 rfl (lv_at hl 2 rfl) ?_
        refine va_copyi (n := (nI c1)) (dp := 0) (sp := 0) hx hb (hml.trans hl.1.symm) hown (hts _ (List.mem_cons_of_mem _ kw_1364)) (hts _ (List.mem_cons_of_mem _ kw_820)) (hts _ (List.mem_cons_of_mem _ kw_819)) (hts _ (List.mem_cons_of_mem _ kw_202)) hK hP hD hS 5 2 0 0 rfl rfl rfl rfl rfl (nI_pos (n := 0) (by omega)) (nI_pos (n := 0) (by omega)) (nI_pos (n := c1) (by omega)) (by rw [show (0 : Int32).toNatClampNeg = 0 from nI_clamp (n := 0) (by omega), show (nI c1).toNatClampNeg = c1 from nI_clamp (n := c1) (by omega)]; omega) (by rw [show (0 : Int32).toNatClampNeg = 0 from nI_clamp (n := 0) (by omega), show (nI c1).toNatClampNeg = c1 from nI_clamp (n := c1) (by omega)]; omega) (fun _ _ => hy _) (Nat.le_of_ble_eq_true rfl) (Nat.le_of_ble_eq_true rfl) dX8_take_54 (fun H locs hP hD hS => ?_)
        rw [show (0 : Int32).toNatClampNeg = 0 from nI_clamp (n := 0) (by omega), show (nI c1).toNatClampNeg = c1 from nI_clamp (n := c1) (by omega)] at hP hD
        have hP : va_P (dC, dI) vwCl [(h0, .inr (9, [.ref hV, .ref hB, wo, wp])), (hV, .inl (cJ, n, .inr (.inl (va_cpy v2 v1 0 0 c1)))), (hB, .inl (cB, n, .inl (va_cpy b2 b1 0 0 c1))), (h1, .inr (9, [.ref hU, .ref hE, xo, xp])), (hU, .inl (cJ, n2, .inr (.inl v2))), (hE, .inl (cB, n2, .inl b2))] H := hP
        have hD : va_D A [(h0, .inr (9, [.ref hV, .ref hB, wo, wp])), (hV, .inl (cJ, n, .inr (.inl (va_cpy v2 v1 0 0 c1)))), (hB, .inl (cB, n, .inl (va_cpy b2 b1 0 0 c1))), (h1, .inr (9, [.ref hU, .ref hE, xo, xp])), (hU, .inl (cJ, n2, .inr (.inl v2))), (hE, .inl (cB, n2, .inl b2))] := hD
        have hP9 := hP.sub (ws' := [(h0, .inr (9, [.ref hV, .ref hB, wo, wp])), (hV, .inl (cJ, n, .inr (.inl (va_cpy v2 v1 0 0 c1)))), (hB, .inl (cB, n, .inl (va_cpy b2 b1 0 0 c1))), (h1, .inr (9, [.ref hU, .ref hE, xo, xp])), (hU, .inl (cJ, n2, .inr (.inl v2))), (hE, .inl (cB, n2, .inl b2))]) [0, 1, 2, 3, 4, 5] rfl
        have hD9 := hD.sub (ws' := [(h0, .inr (9, [.ref hV, .ref hB, wo, wp])), (hV, .inl (cJ, n, .inr (.inl (va_cpy v2 v1 0 0 c1)))), (hB, .inl (cB, n, .inl (va_cpy b2 b1 0 0 c1))), (h1, .inr (9, [.ref hU, .ref hE, xo, xp])), (hU, .inl (cJ, n2, .inr (.inl v2))), (hE, .inl (cB, n2, .inl b2))]) [0, 1, 2, 3, 4, 5] (by decide) rfl
        have hK9 := hK.sub (tys' := [(cB, .byte), (cI, .int), (cJ, .long), (cZ, .boolean)]) [0, 1, 2, 3] rfl
        exact W.vret hx hb hr (fun t_ ht hW => ⟨⟨(), rfl, trivial, by rw [ht]; exact hP9, va_K.moved hW.alike hK9, hD9⟩, hS.F ht⟩) hS.2.2 dX8_take_57
abbrev cs_t_X8_take_0 (cB cI cJ cZ : ClassId) (h0 hV hB n : Nat) (v1 : Nat → Int64) (b1 : Nat → Int32) (wo wp : Value) (h1 hU hE n2 : Nat) (v2 : Nat → Int64) (b2 : Nat → Int32) (xo xp : Value) (c1 : Nat) : va_W := [(h0, .inr (9, [.ref hV, .ref hB, wo, wp])), (hV, .inl (cJ, n, .inr (.inl v1))), (hB, .inl (cB, n, .inl b1)), (h1, .inr (9, [.ref hU, .ref hE, xo, xp])), (hU, .inl (cJ, n2, .inr (.inl v2))), (hE, .inl (cB, n2, .inl b2))]
abbrev pc_t_X8_take_0 (dC : Nat → ClassId) (dI : Nat → Nat → Nat) (sz : Nat) (cB cI cJ cZ : ClassId) (h0 hV hB n : Nat) (v1 : Nat → Int64) (b1 : Nat → Int32) (wo wp : Value) (h1 hU hE n2 : Nat) (v2 : Nat → Int64) (b2 : Nat → Int32) (xo xp : Value) (c1 : Nat) : Array Value → State → Prop := va_Pc [.ref h0, .ref h1, .int (nI c1)] (fun U => U.heap.size = sz ∧ va_P (dC, dI) vwCl [(h0, .inr (9, [.ref hV, .ref hB, wo, wp])), (hV, .inl (cJ, n, .inr (.inl v1))), (hB, .inl (cB, n, .inl b1)), (h1, .inr (9, [.ref hU, .ref hE, xo, xp])), (hU, .inl (cJ, n2, .inr (.inl v2))), (hE, .inl (cB, n2, .inl b2))] U.heap ∧ va_K (dC, dI) vwCl [(cB, .byte), (cI, .int), (cJ, .long), (cZ, .boolean)] U ∧ va_D (fun _ => True) [(h0, .inr (9, [.ref hV, .ref hB, wo, wp])), (hV, .inl (cJ, n, .inr (.inl v1))), (hB, .inl (cB, n, .inl b1)), (h1, .inr (9, [.ref hU, .ref hE, xo, xp])), (hU, .inl (cJ, n2, .inr (.inl v2))), (hE, .inl (cB, n2, .inl b2))])
abbrev qc_t_X8_take_0 (dC : Nat → ClassId) (dI : Nat → Nat → Nat) (cB cI cJ cZ : ClassId) (h0 hV hB n : Nat) (v1 : Nat → Int64) (b1 : Nat → Int32) (wo wp : Value) (h1 hU hE n2 : Nat) (v2 : Nat → Int64) (b2 : Nat → Int32) (xo xp : Value) (c1 : Nat) (A : Nat → Prop) : Array Value → State → Outcome → State → Prop := va_Qv (fun (u : Unit) => match u with | _ => True) (fun (u : Unit) t_ => match u with | _ => va_P (dC, dI) vwCl [(h0, .inr (9, [.ref hV, .ref hB, wo, wp])), (hV, .inl (cJ, n, .inr (.inl v1))), (hB, .inl (cB, n, .inl b1)), (h1, .inr (9, [.ref hU, .ref hE, xo, xp])), (hU, .inl (cJ, n2, .inr (.inl v2))), (hE, .inl (cB, n2, .inl b2))] t_.heap ∧ va_K (dC, dI) vwCl [(cB, .byte), (cI, .int), (cJ, .long), (cZ, .boolean)] t_ ∧ va_D A [(h0, .inr (9, [.ref hV, .ref hB, wo, wp])), (hV, .inl (cJ, n, .inr (.inl v1))), (hB, .inl (cB, n, .inl b1)), (h1, .inr (9, [.ref hU, .ref hE, xo, xp])), (hU, .inl (cJ, n2, .inr (.inl v2))), (hE, .inl (cB, n2, .inl b2))]) A
set_option maxHeartbeats 4000000 in
set_option maxRecDepth 100000 in
theorem t_X8_take_0 (l : Launch) (dC : Nat → ClassId) (dI : Nat → Nat → Nat) (sz : Nat) (cB cI cJ cZ : ClassId) (h0 hV hB n : Nat) (v1 : Nat → Int64) (b1 : Nat → Int32) (wo wp : Value) (h1 hU hE n2 : Nat) (v2 : Nat → Int64) (b2 : Nat → Int32) (xo xp : Value) (c1 : Nat) (hn : n < 500000) (hc : c1 ≤ n) (hc0 : c1 = 0) : Met l yX8_take (wsOf yX8_take cX8_take 3 none) ({ frames := 1, cells := 0, slots := 0, locals := 60 }) (pc_t_X8_take_0 dC dI sz cB cI cJ cZ h0 hV hB n v1 b1 wo wp h1 hU hE n2 v2 b2 xo xp c1) (qc_t_X8_take_0 dC dI cB cI cJ cZ h0 hV hB n v1 b1 wo wp h1 hU hE n2 v2 b2 xo xp c1 (va_A (cs_t_X8_take_0 cB cI cJ cZ h0 hV hB n v1 b1 wo wp h1 hU hE n2 v2 b2 xo xp c1) sz)) 0 0 (va_A (cs_t_X8_take_0 cB cI cJ cZ h0 hV hB n v1 b1 wo wp h1 hU hE n2 v2 b2 xo xp c1) sz) := by
  refine Met.ofW (cc := cX8_take) (maxL := 3) (ret := none) (by decide) rfl ?_
  intro p e s m args below meth c s₁ B hml hv
  obtain ⟨rfl, hsz, hP, hK, hD0⟩ := hv
  have hx := B.exec
  have hb := B.bytes
  have hr := B.returns
  have hts := atoms_spec (ws := (wsOf yX8_take cX8_take 3 none)) B.pre
  have hown : s.vm.findClass RX8 = some m.cls := findClass_of_methodNamed B.named
  have hlocks := B.notSynchronized
  subst hsz
  have hD := hD0.self (sz := s.heap.size)
  generalize hAe : va_A (cs_t_X8_take_0 cB cI cJ cZ h0 hV hB n v1 b1 wo wp h1 hU hE n2 v2 b2 xo xp c1) s.heap.size = A at hD ⊢
  have hA : ∀ q : Nat, s.heap.size ≤ q → A q := fun q h => by rw [← hAe]; exact Or.inr h
  have hS : va_S A s.heap s.heap [] := va_S.rf
  have hP : va_P (dC, dI) vwCl [(h0, .inr (9, [.ref hV, .ref hB, wo, wp])), (hV, .inl (cJ, n, .inr (.inl v1))), (hB, .inl (cB, n, .inl b1)), (h1, .inr (9, [.ref hU, .ref hE, xo, xp])), (hU, .inl (cJ, n2, .inr (.inl v2))), (hE, .inl (cB, n2, .inl b2))] s.heap := hP
  have hl := lv_entry ([.ref h0, .ref h1, .int (nI c1)]) (n := 3) (Nat.le_of_ble_eq_true rfl)
  rw [lg_entry_eq]
  generalize (lg_sl ([.ref h0, .ref h1, .int (nI c1)]) ++ List.replicate (3 - (lg_sl ([.ref h0, .ref h1, .int (nI c1)])).length) Slot.unset).toArray = ls at hl ⊢
  have hl : lv_has ls 3 [(0, .ref h0), (1, .ref h1), (2, .int (nI c1))] := hl
  refine lv_aload_n hx hb dX8_take_0 rfl (lv_at hl 0 rfl) ?_
  refine lv_iload_n hx hb dX8_take_1 rfl (lv_at hl 2 rfl) ?_
  have hPc := hP.sub (ws' := [(h0, .inr (9, [.ref hV, .ref hB, wo, wp])), (hV, .inl (cJ, n, .inr (.inl v1))), (hB, .inl (cB, n, .inl b1))]) [0, 1, 2] rfl
  have hDc := hD.sub (ws' := [(h0, .inr (9, [.ref hV, .ref hB, wo, wp])), (hV, .inl (cJ, n, .inr (.inl v1))), (hB, .inl (cB, n, .inl b1))]) [0, 1, 2] (by decide) rfl
  have hKc := hK.sub (tys' := [(cB, .byte), (cI, .int), (cJ, .long), (cZ, .boolean)]) [0, 1, 2, 3] rfl
  have hFc := va_free (wc := [(h0, .inr (9, [.ref hV, .ref hB, wo, wp])), (hV, .inl (cJ, n, .inr (.inl v1))), (hB, .inl (cB, n, .inl b1))]) hD hS hA [0, 1, 2] rfl
  refine va_callv (va_runV (As := [.int (nI c1)]) (rest := []) ⟨hx, hb, hml, hown, hts⟩ (t_X8_reserve_n l dC dI s.heap.size cB cI cJ cZ h0 hV hB n v1 b1 wo wp c1 hn hc) (cwV 1 hts (gd_all (in_V kw_1338 kw_1339 kw_1340 kw_188 kc_X8_reserve)) rfl rfl rfl (by decide +kernel) ⟨Nat.le_of_ble_eq_true rfl, Nat.le_of_ble_eq_true rfl⟩) ⟨fun a U g mk q => by obtain ⟨q0, q1, qP, qK, qD⟩ := q; exact ⟨q0, q1, qP, va_K.moved (u := U) (U := U.calling g mk a) (Vm.Alike.refl U.vm) qK, qD⟩, va_recv hKc hPc (ci := 9) (q0 := 0) rfl rfl, fun U hU hW => ⟨rfl, by rw [hU], by rw [hU]; exact hPc, va_K.moved hW.alike hKc, hDc.weaken (fun _ _ _ _ => trivial)⟩⟩ rfl rfl hl.1 rfl (lv_room (Nat.le_of_ble_eq_true rfl)) dX8_take_2 ⟨Nat.le_of_ble_eq_true rfl, Nat.le_of_ble_eq_true rfl⟩) hS (fun q _ h => hFc q h) hFc (fun u t_ H1 locs ht hvm hw hB hz1 hk1 hS => ?_)
  obtain ⟨hP1, hK1, hD1⟩ := hB
  rw [ht] at hP1
  have hK1 := va_K.moved hvm.symm hK1
  obtain ⟨hP, hD⟩ := va_join (wr := [(h1, .inr (9, [.ref hU, .ref hE, xo, xp])), (hU, .inl (cJ, n2, .inr (.inl v2))), (hE, .inl (cB, n2, .inl b2))]) (w1 := [(h0, .inr (9, [.ref hV, .ref hB, wo, wp])), (hV, .inl (cJ, n, .inr (.inl v1))), (hB, .inl (cB, n, .inl b1))]) hP hD [0, 1, 2] [3, 4, 5] rfl rfl (by decide) (by decide) hk1 hFc hP1 hD1
  have hK := (hK.sub (tys' := []) [] rfl).app hK1
  generalize H1 = H at hP hS ⊢
  have hP : va_P (dC, dI) vwCl [(h1, .inr (9, [.ref hU, .ref hE, xo, xp])), (hU, .inl (cJ, n2, .inr (.inl v2))), (hE, .inl (cB, n2, .inl b2)), (h0, .inr (9, [.ref hV, .ref hB, wo, wp])), (hV, .inl (cJ, n, .inr (.inl v1))), (hB, .inl (cB, n, .inl b1))] H := hP
  have hD : va_D A [(h1, .inr (9, [.ref hU, .ref hE, xo, xp])), (hU, .inl (cJ, n2, .inr (.inl v2))), (hE, .inl (cB, n2, .inl b2)), (h0, .inr (9, [.ref hV, .ref hB, wo, wp])), (hV, .inl (cJ, n, .inr (.inl v1))), (hB, .inl (cB, n, .inl b1))] := hD
  have hK : va_K (dC, dI) vwCl [(cB, .byte), (cI, .int), (cJ, .long), (cZ, .boolean)] s := hK
  refine lv_iload_n hx hb dX8_take_5 rfl (lv_at hl 2 rfl) ?_
  refine lv_if_le (tgt := 57) hx hb dX8_take_6 (by decide) (fun c_2 => ?_) (fun c_2 => ?_)
  · skip
    have c_2 : c1 ≤ 0 := (nI_leI (a := c1) (b := 0) (by omega) (by omega)).mp c_2
    have hP9 := hP.sub (ws' := [(h0, .inr (9, [.ref hV, .ref hB, wo, wp])), (hV, .inl (cJ, n, .inr (.inl v1))), (hB, .inl (cB, n, .inl b1)), (h1, .inr (9, [.ref hU, .ref hE, xo, xp])), (hU, .inl (cJ, n2, .inr (.inl v2))), (hE, .inl (cB, n2, .inl b2))]) [3, 4, 5, 0, 1, 2] rfl
    have hD9 := hD.sub (ws' := [(h0, .inr (9, [.ref hV, .ref hB, wo, wp])), (hV, .inl (cJ, n, .inr (.inl v1))), (hB, .inl (cB, n, .inl b1)), (h1, .inr (9, [.ref hU, .ref hE, xo, xp])), (hU, .inl (cJ, n2, .inr (.inl v2))), (hE, .inl (cB, n2, .inl b2))]) [3, 4, 5, 0, 1, 2] (by decide) rfl
    have hK9 := hK.sub (tys' := [(cB, .byte), (cI, .int), (cJ, .long), (cZ, .boolean)]) [0, 1, 2, 3] rfl
    exact W.vret hx hb hr (fun t_ ht hW => ⟨⟨(), rfl, trivial, by rw [ht]; exact hP9, va_K.moved hW.alike hK9, hD9⟩, hS.F ht⟩) hS.2.2 dX8_take_57
  · skip
    have c_2 : ¬ (c1 ≤ 0) := fun h => c_2 ((nI_leI (a := c1) (b := 0) (by omega) (by omega)).mpr h)
    exact absurd (show c1 ≤ 0 by omega) c_2
theorem dX11_width_0 : decode cX11_width 0 = .ok (.aload_n 0, 1) := by decide +kernel
theorem dX11_width_1 : decode cX11_width 1 = .ok (.getfield 107, 3) := by decide +kernel
theorem dX11_width_4 : decode cX11_width 4 = .ok (.ifnonnull 7, 3) := by decide +kernel
theorem dX11_width_7 : decode cX11_width 7 = .ok (.iconst 0, 1) := by decide +kernel
theorem dX11_width_8 : decode cX11_width 8 = .ok (.goto 16, 3) := by decide +kernel
theorem dX11_width_11 : decode cX11_width 11 = .ok (.aload_n 0, 1) := by decide +kernel
theorem dX11_width_12 : decode cX11_width 12 = .ok (.getfield 107, 3) := by decide +kernel
theorem dX11_width_15 : decode cX11_width 15 = .ok (.getfield 90, 3) := by decide +kernel
theorem dX11_width_18 : decode cX11_width 18 = .ok (.getfield 195, 3) := by decide +kernel
theorem dX11_width_21 : decode cX11_width 21 = .ok (.getfield 201, 3) := by decide +kernel
theorem dX11_width_24 : decode cX11_width 24 = .ok (.ireturn, 1) := by decide +kernel
abbrev cs_t_X11_width_0 (cB cI cJ cZ : ClassId) (h0 : Nat) (ar : Int32) (v0 v2 v3 v6 v7 v8 v9 v10 v12 v13 v15 : Value) (ts lf ct : Int32) : va_W := [(h0, .inr (12, [v0, .int ts, v2, v3, .int lf, .null, v6, v7, v8, v9, v10, .int ar, v12, v13, .int ct, v15]))]
abbrev pc_t_X11_width_0 (dC : Nat → ClassId) (dI : Nat → Nat → Nat) (sz : Nat) (cB cI cJ cZ : ClassId) (h0 : Nat) (ar : Int32) (v0 v2 v3 v6 v7 v8 v9 v10 v12 v13 v15 : Value) (ts lf ct : Int32) : Array Value → State → Prop := va_Pc [.ref h0] (fun U => U.heap.size = sz ∧ va_P (dC, dI) vwCl [(h0, .inr (12, [v0, .int ts, v2, v3, .int lf, .null, v6, v7, v8, v9, v10, .int ar, v12, v13, .int ct, v15]))] U.heap ∧ va_K (dC, dI) vwCl [(cB, .byte), (cI, .int), (cJ, .long), (cZ, .boolean)] U ∧ va_D (fun _ => True) [(h0, .inr (12, [v0, .int ts, v2, v3, .int lf, .null, v6, v7, v8, v9, v10, .int ar, v12, v13, .int ct, v15]))])
abbrev qc_t_X11_width_0 (dC : Nat → ClassId) (dI : Nat → Nat → Nat) (cB cI cJ cZ : ClassId) (h0 : Nat) (ar : Int32) (v0 v2 v3 v6 v7 v8 v9 v10 v12 v13 v15 : Value) (ts lf ct : Int32) (A : Nat → Prop) : Array Value → State → Outcome → State → Prop := va_Qi (fun (r : Int32) (u : Unit) => match u with | _ => r = 0) (fun (u : Unit) t_ => match u with | _ => va_P (dC, dI) vwCl [(h0, .inr (12, [v0, .int ts, v2, v3, .int lf, .null, v6, v7, v8, v9, v10, .int ar, v12, v13, .int ct, v15]))] t_.heap ∧ va_K (dC, dI) vwCl [(cB, .byte), (cI, .int), (cJ, .long), (cZ, .boolean)] t_ ∧ va_D A [(h0, .inr (12, [v0, .int ts, v2, v3, .int lf, .null, v6, v7, v8, v9, v10, .int ar, v12, v13, .int ct, v15]))]) A
set_option maxHeartbeats 4000000 in
set_option maxRecDepth 100000 in
theorem t_X11_width_0 (l : Launch) (dC : Nat → ClassId) (dI : Nat → Nat → Nat) (sz : Nat) (cB cI cJ cZ : ClassId) (h0 : Nat) (ar : Int32) (v0 v2 v3 v6 v7 v8 v9 v10 v12 v13 v15 : Value) (ts lf ct : Int32)  : Met l yX11_width (wsOf yX11_width cX11_width 1 (some .int)) ({ frames := 0, cells := 0, slots := 0, locals := 0 }) (pc_t_X11_width_0 dC dI sz cB cI cJ cZ h0 ar v0 v2 v3 v6 v7 v8 v9 v10 v12 v13 v15 ts lf ct) (qc_t_X11_width_0 dC dI cB cI cJ cZ h0 ar v0 v2 v3 v6 v7 v8 v9 v10 v12 v13 v15 ts lf ct (va_A (cs_t_X11_width_0 cB cI cJ cZ h0 ar v0 v2 v3 v6 v7 v8 v9 v10 v12 v13 v15 ts lf ct) sz)) 0 0 (va_A (cs_t_X11_width_0 cB cI cJ cZ h0 ar v0 v2 v3 v6 v7 v8 v9 v10 v12 v13 v15 ts lf ct) sz) := by
  refine Met.ofW (cc := cX11_width) (maxL := 1) (ret := (some .int)) (by decide) rfl ?_
  intro p e s m args below meth c s₁ B hml hv
  obtain ⟨rfl, hsz, hP, hK, hD0⟩ := hv
  have hx := B.exec
  have hb := B.bytes
  have hr := B.returns
  have hts := atoms_spec (ws := (wsOf yX11_width cX11_width 1 (some .int))) B.pre
  have hown : s.vm.findClass RX11 = some m.cls := findClass_of_methodNamed B.named
  have hlocks := B.notSynchronized
  subst hsz
  have hD := hD0.self (sz := s.heap.size)
  generalize hAe : va_A (cs_t_X11_width_0 cB cI cJ cZ h0 ar v0 v2 v3 v6 v7 v8 v9 v10 v12 v13 v15 ts lf ct) s.heap.size = A at hD ⊢
  have hA : ∀ q : Nat, s.heap.size ≤ q → A q := fun q h => by rw [← hAe]; exact Or.inr h
  have hS : va_S A s.heap s.heap [] := va_S.rf
  have hP : va_P (dC, dI) vwCl [(h0, .inr (12, [v0, .int ts, v2, v3, .int lf, .null, v6, v7, v8, v9, v10, .int ar, v12, v13, .int ct, v15]))] s.heap := hP
  have hl := lv_entry ([.ref h0]) (n := 1) (Nat.le_of_ble_eq_true rfl)
  rw [lg_entry_eq]
  generalize (lg_sl ([.ref h0]) ++ List.replicate (1 - (lg_sl ([.ref h0])).length) Slot.unset).toArray = ls at hl ⊢
  have hl : lv_has ls 1 [(0, .ref h0)] := hl
  refine lv_aload_n hx hb dX11_width_0 rfl (lv_at hl 0 rfl) ?_
  refine va_get (D := (dC, dI)) (ci := 12) (v := .null) (C := RX11) (T := TX11) (N := 16) hx hb hts (fun w h => List.mem_cons_of_mem _ (uG_X11 w h)) hown hK hP 0 rfl rfl 5 (by decide) (hts _ (List.mem_cons_of_mem _ kw_433)) (fun _ h9 => h9) rfl dX11_width_1 ?_
  refine lv_ifnonnullN hx hb dX11_width_4 ?_
  refine lv_iconst (v := 0) hx hb dX11_width_7 (by decide) ?_
  refine lv_goto (tgt := 24) hx hb dX11_width_8 (by decide) ?_
  have hP9 := hP.sub (ws' := [(h0, .inr (12, [v0, .int ts, v2, v3, .int lf, .null, v6, v7, v8, v9, v10, .int ar, v12, v13, .int ct, v15]))]) [0] rfl
  have hD9 := hD.sub (ws' := [(h0, .inr (12, [v0, .int ts, v2, v3, .int lf, .null, v6, v7, v8, v9, v10, .int ar, v12, v13, .int ct, v15]))]) [0] (by decide) rfl
  have hK9 := hK.sub (tys' := [(cB, .byte), (cI, .int), (cJ, .long), (cZ, .boolean)]) [0, 1, 2, 3] rfl
  exact W.iret (v := 0) hx hb hr (fun t_ ht hW => ⟨⟨0, (), rfl, rfl, by rw [ht]; exact hP9, va_K.moved hW.alike hK9, hD9⟩, hS.F ht⟩) hS.2.2 dX11_width_24
abbrev cs_t_X11_width_1 (cB cI cJ cZ : ClassId) (h0 hX hY hZ ar1 wd : Nat) (e0 e1 e4 e5 e8 e9 e11 u3 u4 u5 : Int32) (g2 g6 g7 g10 u0 u2 t1 t2 t3 t4 : Value) (v0 v2 v3 v6 v7 v8 v9 v10 v12 v13 v15 : Value) (ts lf ct : Int32) : va_W := [(h0, .inr (12, [v0, .int ts, v2, v3, .int lf, .ref hX, v6, v7, v8, v9, v10, .int (nI ar1), v12, v13, .int ct, v15])), (hX, .inr (10, [.int e0, .int e1, g2, .ref hY, .int e4, .int e5, g6, g7, .int e8, .int e9, g10, .int e11])), (hY, .inr (4, [u0, .ref hZ, u2, .int u3, .int u4, .int u5])), (hZ, .inr (3, [.int (nI wd), t1, t2, t3, t4]))]
abbrev pc_t_X11_width_1 (dC : Nat → ClassId) (dI : Nat → Nat → Nat) (sz : Nat) (cB cI cJ cZ : ClassId) (h0 hX hY hZ ar1 wd : Nat) (e0 e1 e4 e5 e8 e9 e11 u3 u4 u5 : Int32) (g2 g6 g7 g10 u0 u2 t1 t2 t3 t4 : Value) (v0 v2 v3 v6 v7 v8 v9 v10 v12 v13 v15 : Value) (ts lf ct : Int32) : Array Value → State → Prop := va_Pc [.ref h0] (fun U => U.heap.size = sz ∧ va_P (dC, dI) vwCl [(h0, .inr (12, [v0, .int ts, v2, v3, .int lf, .ref hX, v6, v7, v8, v9, v10, .int (nI ar1), v12, v13, .int ct, v15])), (hX, .inr (10, [.int e0, .int e1, g2, .ref hY, .int e4, .int e5, g6, g7, .int e8, .int e9, g10, .int e11])), (hY, .inr (4, [u0, .ref hZ, u2, .int u3, .int u4, .int u5])), (hZ, .inr (3, [.int (nI wd), t1, t2, t3, t4]))] U.heap ∧ va_K (dC, dI) vwCl [(cB, .byte), (cI, .int), (cJ, .long), (cZ, .boolean)] U ∧ va_D (fun _ => True) [(h0, .inr (12, [v0, .int ts, v2, v3, .int lf, .ref hX, v6, v7, v8, v9, v10, .int (nI ar1), v12, v13, .int ct, v15])), (hX, .inr (10, [.int e0, .int e1, g2, .ref hY, .int e4, .int e5, g6, g7, .int e8, .int e9, g10, .int e11])), (hY, .inr (4, [u0, .ref hZ, u2, .int u3, .int u4, .int u5])), (hZ, .inr (3, [.int (nI wd), t1, t2, t3, t4]))])
abbrev qc_t_X11_width_1 (dC : Nat → ClassId) (dI : Nat → Nat → Nat) (cB cI cJ cZ : ClassId) (h0 hX hY hZ ar1 wd : Nat) (e0 e1 e4 e5 e8 e9 e11 u3 u4 u5 : Int32) (g2 g6 g7 g10 u0 u2 t1 t2 t3 t4 : Value) (v0 v2 v3 v6 v7 v8 v9 v10 v12 v13 v15 : Value) (ts lf ct : Int32) (A : Nat → Prop) : Array Value → State → Outcome → State → Prop := va_Qi (fun (r : Int32) (u : Unit) => match u with | _ => r = nI wd) (fun (u : Unit) t_ => match u with | _ => va_P (dC, dI) vwCl [(h0, .inr (12, [v0, .int ts, v2, v3, .int lf, .ref hX, v6, v7, v8, v9, v10, .int (nI ar1), v12, v13, .int ct, v15])), (hX, .inr (10, [.int e0, .int e1, g2, .ref hY, .int e4, .int e5, g6, g7, .int e8, .int e9, g10, .int e11])), (hY, .inr (4, [u0, .ref hZ, u2, .int u3, .int u4, .int u5])), (hZ, .inr (3, [.int (nI wd), t1, t2, t3, t4]))] t_.heap ∧ va_K (dC, dI) vwCl [(cB, .byte), (cI, .int), (cJ, .long), (cZ, .boolean)] t_ ∧ va_D A [(h0, .inr (12, [v0, .int ts, v2, v3, .int lf, .ref hX, v6, v7, v8, v9, v10, .int (nI ar1), v12, v13, .int ct, v15])), (hX, .inr (10, [.int e0, .int e1, g2, .ref hY, .int e4, .int e5, g6, g7, .int e8, .int e9, g10, .int e11])), (hY, .inr (4, [u0, .ref hZ, u2, .int u3, .int u4, .int u5])), (hZ, .inr (3, [.int (nI wd), t1, t2, t3, t4]))]) A
set_option maxHeartbeats 4000000 in
set_option maxRecDepth 100000 in
theorem t_X11_width_1 (l : Launch) (dC : Nat → ClassId) (dI : Nat → Nat → Nat) (sz : Nat) (cB cI cJ cZ : ClassId) (h0 hX hY hZ ar1 wd : Nat) (e0 e1 e4 e5 e8 e9 e11 u3 u4 u5 : Int32) (g2 g6 g7 g10 u0 u2 t1 t2 t3 t4 : Value) (v0 v2 v3 v6 v7 v8 v9 v10 v12 v13 v15 : Value) (ts lf ct : Int32)  : Met l yX11_width (wsOf yX11_width cX11_width 1 (some .int)) ({ frames := 0, cells := 0, slots := 0, locals := 0 }) (pc_t_X11_width_1 dC dI sz cB cI cJ cZ h0 hX hY hZ ar1 wd e0 e1 e4 e5 e8 e9 e11 u3 u4 u5 g2 g6 g7 g10 u0 u2 t1 t2 t3 t4 v0 v2 v3 v6 v7 v8 v9 v10 v12 v13 v15 ts lf ct) (qc_t_X11_width_1 dC dI cB cI cJ cZ h0 hX hY hZ ar1 wd e0 e1 e4 e5 e8 e9 e11 u3 u4 u5 g2 g6 g7 g10 u0 u2 t1 t2 t3 t4 v0 v2 v3 v6 v7 v8 v9 v10 v12 v13 v15 ts lf ct (va_A (cs_t_X11_width_1 cB cI cJ cZ h0 hX hY hZ ar1 wd e0 e1 e4 e5 e8 e9 e11 u3 u4 u5 g2 g6 g7 g10 u0 u2 t1 t2 t3 t4 v0 v2 v3 v6 v7 v8 v9 v10 v12 v13 v15 ts lf ct) sz)) 0 0 (va_A (cs_t_X11_width_1 cB cI cJ cZ h0 hX hY hZ ar1 wd e0 e1 e4 e5 e8 e9 e11 u3 u4 u5 g2 g6 g7 g10 u0 u2 t1 t2 t3 t4 v0 v2 v3 v6 v7 v8 v9 v10 v12 v13 v15 ts lf ct) sz) := by
  refine Met.ofW (cc := cX11_width) (maxL := 1) (ret := (some .int)) (by decide) rfl ?_
  intro p e s m args below meth c s₁ B hml hv
  obtain ⟨rfl, hsz, hP, hK, hD0⟩ := hv
  have hx := B.exec
  have hb := B.bytes
  have hr := B.returns
  have hts := atoms_spec (ws := (wsOf yX11_width cX11_width 1 (some .int))) B.pre
  have hown : s.vm.findClass RX11 = some m.cls := findClass_of_methodNamed B.named
  have hlocks := B.notSynchronized
  subst hsz
  have hD := hD0.self (sz := s.heap.size)
  generalize hAe : va_A (cs_t_X11_width_1 cB cI cJ cZ h0 hX hY hZ ar1 wd e0 e1 e4 e5 e8 e9 e11 u3 u4 u5 g2 g6 g7 g10 u0 u2 t1 t2 t3 t4 v0 v2 v3 v6 v7 v8 v9 v10 v12 v13 v15 ts lf ct) s.heap.size = A at hD ⊢
  have hA : ∀ q : Nat, s.heap.size ≤ q → A q := fun q h => by rw [← hAe]; exact Or.inr h
  have hS : va_S A s.heap s.heap [] := va_S.rf
  have hP : va_P (dC, dI) vwCl [(h0, .inr (12, [v0, .int ts, v2, v3, .int lf, .ref hX, v6, v7, v8, v9, v10, .int (nI ar1), v12, v13, .int ct, v15])), (hX, .inr (10, [.int e0, .int e1, g2, .ref hY, .int e4, .int e5, g6, g7, .int e8, .int e9, g10, .int e11])), (hY, .inr (4, [u0, .ref hZ, u2, .int u3, .int u4, .int u5])), (hZ, .inr (3, [.int (nI wd), t1, t2, t3, t4]))] s.heap := hP
  have hl := lv_entry ([.ref h0]) (n := 1) (Nat.le_of_ble_eq_true rfl)
  rw [lg_entry_eq]
  generalize (lg_sl ([.ref h0]) ++ List.replicate (1 - (lg_sl ([.ref h0])).length) Slot.unset).toArray = ls at hl ⊢
  have hl : lv_has ls 1 [(0, .ref h0)] := hl
  refine lv_aload_n hx hb dX11_width_0 rfl (lv_at hl 0 rfl) ?_
  refine va_get (D := (dC, dI)) (ci := 12) (v := .ref hX) (C := RX11) (T := TX11) (N := 16) hx hb hts (fun w h => List.mem_cons_of_mem _ (uG_X11 w h)) hown hK hP 0 rfl rfl 5 (by decide) (hts _ (List.mem_cons_of_mem _ kw_433)) (fun _ h9 => h9) rfl dX11_width_1 ?_
  refine lv_ifnonnull (tgt := 11) hx hb dX11_width_4 (by decide) ?_
  refine lv_aload_n hx hb dX11_width_11 rfl (lv_at hl 0 rfl) ?_
  refine va_get (D := (dC, dI)) (ci := 12) (v := .ref hX) (C := RX11) (T := TX11) (N := 16) hx hb hts (fun w h => List.mem_cons_of_mem _ (uG_X11 w h)) hown hK hP 0 rfl rfl 5 (by decide) (hts _ (List.mem_cons_of_mem _ kw_433)) (fun _ h9 => h9) rfl dX11_width_12 ?_
  refine va_get (D := (dC, dI)) (ci := 10) (v := .ref hY) (C := RX9) (T := TX9) (N := 12) hx hb hts (fun w h => List.mem_cons_of_mem _ (uG_X9 w h)) hown hK hP 1 rfl rfl 3 (by decide) (hts _ (List.mem_cons_of_mem _ kw_863)) (fun _ h9 => h9) rfl dX11_width_15 ?_
  refine va_get (D := (dC, dI)) (ci := 4) (v := .ref hZ) (C := RX3) (T := TX3) (N := 6) hx hb hts (fun w h => List.mem_cons_of_mem _ (uG_X3 w h)) hown hK hP 2 rfl rfl 1 (by decide) (hts _ (List.mem_cons_of_mem _ kw_831)) (fun _ h9 => h9) rfl dX11_width_18 ?_
  refine va_get (D := (dC, dI)) (ci := 3) (v := .int (nI wd)) (C := RX2) (T := TX2) (N := 5) hx hb hts (fun w h => List.mem_cons_of_mem _ (uG_X2 w h)) hown hK hP 3 rfl rfl 0 (by decide) (hts _ (List.mem_cons_of_mem _ kw_632)) (fun _ h9 => h9) rfl dX11_width_21 ?_
  have hP9 := hP.sub (ws' := [(h0, .inr (12, [v0, .int ts, v2, v3, .int lf, .ref hX, v6, v7, v8, v9, v10, .int (nI ar1), v12, v13, .int ct, v15])), (hX, .inr (10, [.int e0, .int e1, g2, .ref hY, .int e4, .int e5, g6, g7, .int e8, .int e9, g10, .int e11])), (hY, .inr (4, [u0, .ref hZ, u2, .int u3, .int u4, .int u5])), (hZ, .inr (3, [.int (nI wd), t1, t2, t3, t4]))]) [0, 1, 2, 3] rfl
  have hD9 := hD.sub (ws' := [(h0, .inr (12, [v0, .int ts, v2, v3, .int lf, .ref hX, v6, v7, v8, v9, v10, .int (nI ar1), v12, v13, .int ct, v15])), (hX, .inr (10, [.int e0, .int e1, g2, .ref hY, .int e4, .int e5, g6, g7, .int e8, .int e9, g10, .int e11])), (hY, .inr (4, [u0, .ref hZ, u2, .int u3, .int u4, .int u5])), (hZ, .inr (3, [.int (nI wd), t1, t2, t3, t4]))]) [0, 1, 2, 3] (by decide) rfl
  have hK9 := hK.sub (tys' := [(cB, .byte), (cI, .int), (cJ, .long), (cZ, .boolean)]) [0, 1, 2, 3] rfl
  exact W.iret (v := (nI wd)) hx hb hr (fun t_ ht hW => ⟨⟨(nI wd), (), rfl, rfl, by rw [ht]; exact hP9, va_K.moved hW.alike hK9, hD9⟩, hS.F ht⟩) hS.2.2 dX11_width_24
theorem dX11_answerCell_0 : decode cX11_answerCell 0 = .ok (.iload_n 1, 1) := by decide +kernel
theorem dX11_answerCell_1 : decode cX11_answerCell 1 = .ok (.ifCond .lt 23, 3) := by decide +kernel
theorem dX11_answerCell_4 : decode cX11_answerCell 4 = .ok (.iload_n 1, 1) := by decide +kernel
theorem dX11_answerCell_5 : decode cX11_answerCell 5 = .ok (.aload_n 0, 1) := by decide +kernel
theorem dX11_answerCell_6 : decode cX11_answerCell 6 = .ok (.getfield 162, 3) := by decide +kernel
theorem dX11_answerCell_9 : decode cX11_answerCell 9 = .ok (.if_icmp .ge 15, 3) := by decide +kernel
theorem dX11_answerCell_12 : decode cX11_answerCell 12 = .ok (.iload_n 2, 1) := by decide +kernel
theorem dX11_answerCell_13 : decode cX11_answerCell 13 = .ok (.ifCond .lt 11, 3) := by decide +kernel
theorem dX11_answerCell_16 : decode cX11_answerCell 16 = .ok (.iload_n 2, 1) := by decide +kernel
theorem dX11_answerCell_17 : decode cX11_answerCell 17 = .ok (.aload_n 0, 1) := by decide +kernel
theorem dX11_answerCell_18 : decode cX11_answerCell 18 = .ok (.invokevirtual 127, 3) := by decide +kernel
theorem dX11_answerCell_21 : decode cX11_answerCell 21 = .ok (.if_icmp .lt 5, 3) := by decide +kernel
theorem dX11_answerCell_24 : decode cX11_answerCell 24 = .ok (.iconst (-1), 1) := by decide +kernel
theorem dX11_answerCell_25 : decode cX11_answerCell 25 = .ok (.ireturn, 1) := by decide +kernel
theorem dX11_answerCell_26 : decode cX11_answerCell 26 = .ok (.iload_n 1, 1) := by decide +kernel
theorem dX11_answerCell_27 : decode cX11_answerCell 27 = .ok (.aload_n 0, 1) := by decide +kernel
theorem dX11_answerCell_28 : decode cX11_answerCell 28 = .ok (.invokevirtual 127, 3) := by decide +kernel
theorem dX11_answerCell_31 : decode cX11_answerCell 31 = .ok (.imul, 1) := by decide +kernel
theorem dX11_answerCell_32 : decode cX11_answerCell 32 = .ok (.iload_n 2, 1) := by decide +kernel
theorem dX11_answerCell_33 : decode cX11_answerCell 33 = .ok (.iadd, 1) := by decide +kernel
theorem dX11_answerCell_34 : decode cX11_answerCell 34 = .ok (.ireturn, 1) := by decide +kernel
abbrev cs_t_X11_answerCell_in (cB cI cJ cZ : ClassId) (h0 hX hY hZ ar1 wd : Nat) (e0 e1 e4 e5 e8 e9 e11 u3 u4 u5 : Int32) (g2 g6 g7 g10 u0 u2 t1 t2 t3 t4 : Value) (v0 v2 v3 v6 v7 v8 v9 v10 v12 v13 v15 : Value) (ts lf ct : Int32) (i c1 : Nat) : va_W := [(h0, .inr (12, [v0, .int ts, v2, v3, .int lf, .ref hX, v6, v7, v8, v9, v10, .int (nI ar1), v12, v13, .int ct, v15])), (hX, .inr (10, [.int e0, .int e1, g2, .ref hY, .int e4, .int e5, g6, g7, .int e8, .int e9, g10, .int e11])), (hY, .inr (4, [u0, .ref hZ, u2, .int u3, .int u4, .int u5])), (hZ, .inr (3, [.int (nI wd), t1, t2, t3, t4]))]
abbrev pc_t_X11_answerCell_in (dC : Nat → ClassId) (dI : Nat → Nat → Nat) (sz : Nat) (cB cI cJ cZ : ClassId) (h0 hX hY hZ ar1 wd : Nat) (e0 e1 e4 e5 e8 e9 e11 u3 u4 u5 : Int32) (g2 g6 g7 g10 u0 u2 t1 t2 t3 t4 : Value) (v0 v2 v3 v6 v7 v8 v9 v10 v12 v13 v15 : Value) (ts lf ct : Int32) (i c1 : Nat) : Array Value → State → Prop := va_Pc [.ref h0, .int (nI i), .int (nI c1)] (fun U => U.heap.size = sz ∧ va_P (dC, dI) vwCl [(h0, .inr (12, [v0, .int ts, v2, v3, .int lf, .ref hX, v6, v7, v8, v9, v10, .int (nI ar1), v12, v13, .int ct, v15])), (hX, .inr (10, [.int e0, .int e1, g2, .ref hY, .int e4, .int e5, g6, g7, .int e8, .int e9, g10, .int e11])), (hY, .inr (4, [u0, .ref hZ, u2, .int u3, .int u4, .int u5])), (hZ, .inr (3, [.int (nI wd), t1, t2, t3, t4]))] U.heap ∧ va_K (dC, dI) vwCl [(cB, .byte), (cI, .int), (cJ, .long), (cZ, .boolean)] U ∧ va_D (fun _ => True) [(h0, .inr (12, [v0, .int ts, v2, v3, .int lf, .ref hX, v6, v7, v8, v9, v10, .int (nI ar1), v12, v13, .int ct, v15])), (hX, .inr (10, [.int e0, .int e1, g2, .ref hY, .int e4, .int e5, g6, g7, .int e8, .int e9, g10, .int e11])), (hY, .inr (4, [u0, .ref hZ, u2, .int u3, .int u4, .int u5])), (hZ, .inr (3, [.int (nI wd), t1, t2, t3, t4]))])
abbrev qc_t_X11_answerCell_in (dC : Nat → ClassId) (dI : Nat → Nat → Nat) (cB cI cJ cZ : ClassId) (h0 hX hY hZ ar1 wd : Nat) (e0 e1 e4 e5 e8 e9 e11 u3 u4 u5 : Int32) (g2 g6 g7 g10 u0 u2 t1 t2 t3 t4 : Value) (v0 v2 v3 v6 v7 v8 v9 v10 v12 v13 v15 : Value) (ts lf ct : Int32) (i c1 : Nat) (A : Nat → Prop) : Array Value → State → Outcome → State → Prop := va_Qi (fun (r : Int32) (u : Unit) => match u with | _ => r = nI (i * wd + c1)) (fun (u : Unit) t_ => match u with | _ => va_P (dC, dI) vwCl [(h0, .inr (12, [v0, .int ts, v2, v3, .int lf, .ref hX, v6, v7, v8, v9, v10, .int (nI ar1), v12, v13, .int ct, v15])), (hX, .inr (10, [.int e0, .int e1, g2, .ref hY, .int e4, .int e5, g6, g7, .int e8, .int e9, g10, .int e11])), (hY, .inr (4, [u0, .ref hZ, u2, .int u3, .int u4, .int u5])), (hZ, .inr (3, [.int (nI wd), t1, t2, t3, t4]))] t_.heap ∧ va_K (dC, dI) vwCl [(cB, .byte), (cI, .int), (cJ, .long), (cZ, .boolean)] t_ ∧ va_D A [(h0, .inr (12, [v0, .int ts, v2, v3, .int lf, .ref hX, v6, v7, v8, v9, v10, .int (nI ar1), v12, v13, .int ct, v15])), (hX, .inr (10, [.int e0, .int e1, g2, .ref hY, .int e4, .int e5, g6, g7, .int e8, .int e9, g10, .int e11])), (hY, .inr (4, [u0, .ref hZ, u2, .int u3, .int u4, .int u5])), (hZ, .inr (3, [.int (nI wd), t1, t2, t3, t4]))]) A
set_option maxHeartbeats 4000000 in
set_option maxRecDepth 100000 in
theorem t_X11_answerCell_in (l : Launch) (dC : Nat → ClassId) (dI : Nat → Nat → Nat) (sz : Nat) (cB cI cJ cZ : ClassId) (h0 hX hY hZ ar1 wd : Nat) (e0 e1 e4 e5 e8 e9 e11 u3 u4 u5 : Int32) (g2 g6 g7 g10 u0 u2 t1 t2 t3 t4 : Value) (v0 v2 v3 v6 v7 v8 v9 v10 v12 v13 v15 : Value) (ts lf ct : Int32) (i c1 : Nat) (har : ar1 < 100000) (hwd : wd ≤ 8) (hi : i < ar1) (hc : c1 < wd) : Met l yX11_answerCell (wsOf yX11_answerCell cX11_answerCell 3 (some .int)) ({ frames := 1, cells := 0, slots := 0, locals := 60 }) (pc_t_X11_answerCell_in dC dI sz cB cI cJ cZ h0 hX hY hZ ar1 wd e0 e1 e4 e5 e8 e9 e11 u3 u4 u5 g2 g6 g7 g10 u0 u2 t1 t2 t3 t4 v0 v2 v3 v6 v7 v8 v9 v10 v12 v13 v15 ts lf ct i c1) (qc_t_X11_answerCell_in dC dI cB cI cJ cZ h0 hX hY hZ ar1 wd e0 e1 e4 e5 e8 e9 e11 u3 u4 u5 g2 g6 g7 g10 u0 u2 t1 t2 t3 t4 v0 v2 v3 v6 v7 v8 v9 v10 v12 v13 v15 ts lf ct i c1 (va_A (cs_t_X11_answerCell_in cB cI cJ cZ h0 hX hY hZ ar1 wd e0 e1 e4 e5 e8 e9 e11 u3 u4 u5 g2 g6 g7 g10 u0 u2 t1 t2 t3 t4 v0 v2 v3 v6 v7 v8 v9 v10 v12 v13 v15 ts lf ct i c1) sz)) 0 0 (va_A (cs_t_X11_answerCell_in cB cI cJ cZ h0 hX hY hZ ar1 wd e0 e1 e4 e5 e8 e9 e11 u3 u4 u5 g2 g6 g7 g10 u0 u2 t1 t2 t3 t4 v0 v2 v3 v6 v7 v8 v9 v10 v12 v13 v15 ts lf ct i c1) sz) := by
  refine Met.ofW (cc := cX11_answerCell) (maxL := 3) (ret := (some .int)) (by decide) rfl ?_
  intro p e s m args below meth c s₁ B hml hv
  obtain ⟨rfl, hsz, hP, hK, hD0⟩ := hv
  have hx := B.exec
  have hb := B.bytes
  have hr := B.returns
  have hts := atoms_spec (ws := (wsOf yX11_answerCell cX11_answerCell 3 (some .int))) B.pre
  have hown : s.vm.findClass RX11 = some m.cls := findClass_of_methodNamed B.named
  have hlocks := B.notSynchronized
  subst hsz
  have hD := hD0.self (sz := s.heap.size)
  generalize hAe : va_A (cs_t_X11_answerCell_in cB cI cJ cZ h0 hX hY hZ ar1 wd e0 e1 e4 e5 e8 e9 e11 u3 u4 u5 g2 g6 g7 g10 u0 u2 t1 t2 t3 t4 v0 v2 v3 v6 v7 v8 v9 v10 v12 v13 v15 ts lf ct i c1) s.heap.size = A at hD ⊢
  have hA : ∀ q : Nat, s.heap.size ≤ q → A q := fun q h => by rw [← hAe]; exact Or.inr h
  have hS : va_S A s.heap s.heap [] := va_S.rf
  have hP : va_P (dC, dI) vwCl [(h0, .inr (12, [v0, .int ts, v2, v3, .int lf, .ref hX, v6, v7, v8, v9, v10, .int (nI ar1), v12, v13, .int ct, v15])), (hX, .inr (10, [.int e0, .int e1, g2, .ref hY, .int e4, .int e5, g6, g7, .int e8, .int e9, g10, .int e11])), (hY, .inr (4, [u0, .ref hZ, u2, .int u3, .int u4, .int u5])), (hZ, .inr (3, [.int (nI wd), t1, t2, t3, t4]))] s.heap := hP
  have hl := lv_entry ([.ref h0, .int (nI i), .int (nI c1)]) (n := 3) (Nat.le_of_ble_eq_true rfl)
  rw [lg_entry_eq]
  generalize (lg_sl ([.ref h0, .int (nI i), .int (nI c1)]) ++ List.replicate (3 - (lg_sl ([.ref h0, .int (nI i), .int (nI c1)])).length) Slot.unset).toArray = ls at hl ⊢
  have hl : lv_has ls 3 [(0, .ref h0), (1, .int (nI i)), (2, .int (nI c1))] := hl
  refine lv_iload_n hx hb dX11_answerCell_0 rfl (lv_at hl 1 rfl) ?_
  refine lv_if_lt (tgt := 24) hx hb dX11_answerCell_1 (by decide) (fun c_1 => ?_) (fun c_1 => ?_)
  · skip
    have c_1 : i < 0 := (nI_ltI (a := i) (b := 0) (by omega) (by omega)).mp c_1
    exact absurd c_1 (by omega)
  · skip
    have c_1 : ¬ (i < 0) := fun h => c_1 ((nI_ltI (a := i) (b := 0) (by omega) (by omega)).mpr h)
    refine lv_iload_n hx hb dX11_answerCell_4 rfl (lv_at hl 1 rfl) ?_
    refine lv_aload_n hx hb dX11_answerCell_5 rfl (lv_at hl 0 rfl) ?_
    refine va_get (D := (dC, dI)) (ci := 12) (v := .int (nI ar1)) (C := RX11) (T := TX11) (N := 16) hx hb hts (fun w h => List.mem_cons_of_mem _ (uG_X11 w h)) hown hK hP 0 rfl rfl 11 (by decide) (hts _ (List.mem_cons_of_mem _ kw_439)) (fun _ h9 => h9) rfl dX11_answerCell_6 ?_
    refine lv_icmp_ge (tgt := 24) hx hb dX11_answerCell_9 (by decide) (fun c_2 => ?_) (fun c_2 => ?_)
    · skip
      have c_2 : ar1 ≤ i := (nI_leI (a := ar1) (b := i) (by omega) (by omega)).mp c_2
      exact absurd c_2 (by omega)
    · skip
      have c_2 : ¬ (ar1 ≤ i) := fun h => c_2 ((nI_leI (a := ar1) (b := i) (by omega) (by omega)).mpr h)
      refine lv_iload_n hx hb dX11_answerCell_12 rfl (lv_at hl 2 rfl) ?_
      refine lv_if_lt (tgt := 24) hx hb dX11_answerCell_13 (by decide) (fun c_3 => ?_) (fun c_3 => ?_)
      · skip
        have c_3 : c1 < 0 := (nI_ltI (a := c1) (b := 0) (by omega) (by omega)).mp c_3
        exact absurd c_3 (by omega)
      · skip
        have c_3 : ¬ (c1 < 0) := fun h => c_3 ((nI_ltI (a := c1) (b := 0) (by omega) (by omega)).mpr h)
        refine lv_iload_n hx hb dX11_answerCell_16 rfl (lv_at hl 2 rfl) ?_
        refine lv_aload_n hx hb dX11_answerCell_17 rfl (lv_at hl 0 rfl) ?_
        have hPc := hP.sub (ws' := [(h0, .inr (12, [v0, .int ts, v2, v3, .int lf, .ref hX, v6, v7, v8, v9, v10, .int (nI ar1), v12, v13, .int ct, v15])), (hX, .inr (10, [.int e0, .int e1, g2, .ref hY, .int e4, .int e5, g6, g7, .int e8, .int e9, g10, .int e11])), (hY, .inr (4, [u0, .ref hZ, u2, .int u3, .int u4, .int u5])), (hZ, .inr (3, [.int (nI wd), t1, t2, t3, t4]))]) [0, 1, 2, 3] rfl
        have hDc := hD.sub (ws' := [(h0, .inr (12, [v0, .int ts, v2, v3, .int lf, .ref hX, v6, v7, v8, v9, v10, .int (nI ar1), v12, v13, .int ct, v15])), (hX, .inr (10, [.int e0, .int e1, g2, .ref hY, .int e4, .int e5, g6, g7, .int e8, .int e9, g10, .int e11])), (hY, .inr (4, [u0, .ref hZ, u2, .int u3, .int u4, .int u5])), (hZ, .inr (3, [.int (nI wd), t1, t2, t3, t4]))]) [0, 1, 2, 3] (by decide) rfl
        have hKc := hK.sub (tys' := [(cB, .byte), (cI, .int), (cJ, .long), (cZ, .boolean)]) [0, 1, 2, 3] rfl
        have hFc := va_free (wc := [(h0, .inr (12, [v0, .int ts, v2, v3, .int lf, .ref hX, v6, v7, v8, v9, v10, .int (nI ar1), v12, v13, .int ct, v15])), (hX, .inr (10, [.int e0, .int e1, g2, .ref hY, .int e4, .int e5, g6, g7, .int e8, .int e9, g10, .int e11])), (hY, .inr (4, [u0, .ref hZ, u2, .int u3, .int u4, .int u5])), (hZ, .inr (3, [.int (nI wd), t1, t2, t3, t4]))]) hD hS hA [0, 1, 2, 3] rfl
        refine va_calli (va_runV (As := []) (rest := [.int (nI c1)]) ⟨hx, hb, hml, hown, hts⟩ (t_X11_width_1 l dC dI s.heap.size cB cI cJ cZ h0 hX hY hZ ar1 wd e0 e1 e4 e5 e8 e9 e11 u3 u4 u5 g2 g6 g7 g10 u0 u2 t1 t2 t3 t4 v0 v2 v3 v6 v7 v8 v9 v10 v12 v13 v15 ts lf ct) (cwV 0 hts (gd_all (in_V kw_1330 kw_1332 kw_66 kw_181 kc_X11_width)) rfl rfl rfl (by decide +kernel) ⟨Nat.le_of_ble_eq_true rfl, Nat.le_of_ble_eq_true rfl⟩) ⟨fun a U g mk q => by obtain ⟨q0, q1, qP, qK, qD⟩ := q; exact ⟨q0, q1, qP, va_K.moved (u := U) (U := U.calling g mk a) (Vm.Alike.refl U.vm) qK, qD⟩, va_recv hKc hPc (ci := 12) (q0 := 0) rfl rfl, fun U hU hW => ⟨rfl, by rw [hU], by rw [hU]; exact hPc, va_K.moved hW.alike hKc, hDc.weaken (fun _ _ _ _ => trivial)⟩⟩ rfl rfl hl.1 rfl (lv_room (Nat.le_of_ble_eq_true rfl)) dX11_answerCell_18 ⟨Nat.le_of_ble_eq_true rfl, Nat.le_of_ble_eq_true rfl⟩) hS (fun q _ h => hFc q h) hFc (fun r_4 u t_ H1 locs ht hvm hw hB hz1 hk1 hS => ?_)
        obtain ⟨hP1, hK1, hD1⟩ := hB
        rw [ht] at hP1
        have hK1 := va_K.moved hvm.symm hK1
        obtain ⟨hP, hD⟩ := va_join (wr := []) (w1 := [(h0, .inr (12, [v0, .int ts, v2, v3, .int lf, .ref hX, v6, v7, v8, v9, v10, .int (nI ar1), v12, v13, .int ct, v15])), (hX, .inr (10, [.int e0, .int e1, g2, .ref hY, .int e4, .int e5, g6, g7, .int e8, .int e9, g10, .int e11])), (hY, .inr (4, [u0, .ref hZ, u2, .int u3, .int u4, .int u5])), (hZ, .inr (3, [.int (nI wd), t1, t2, t3, t4]))]) hP hD [0, 1, 2, 3] [] rfl rfl (by decide) (by decide) hk1 hFc hP1 hD1
        have hK := (hK.sub (tys' := []) [] rfl).app hK1
        generalize H1 = H at hP hS ⊢
        have hP : va_P (dC, dI) vwCl [(h0, .inr (12, [v0, .int ts, v2, v3, .int lf, .ref hX, v6, v7, v8, v9, v10, .int (nI ar1), v12, v13, .int ct, v15])), (hX, .inr (10, [.int e0, .int e1, g2, .ref hY, .int e4, .int e5, g6, g7, .int e8, .int e9, g10, .int e11])), (hY, .inr (4, [u0, .ref hZ, u2, .int u3, .int u4, .int u5])), (hZ, .inr (3, [.int (nI wd), t1, t2, t3, t4]))] H := hP
        have hD : va_D A [(h0, .inr (12, [v0, .int ts, v2, v3, .int lf, .ref hX, v6, v7, v8, v9, v10, .int (nI ar1), v12, v13, .int ct, v15])), (hX, .inr (10, [.int e0, .int e1, g2, .ref hY, .int e4, .int e5, g6, g7, .int e8, .int e9, g10, .int e11])), (hY, .inr (4, [u0, .ref hZ, u2, .int u3, .int u4, .int u5])), (hZ, .inr (3, [.int (nI wd), t1, t2, t3, t4]))] := hD
        have hK : va_K (dC, dI) vwCl [(cB, .byte), (cI, .int), (cJ, .long), (cZ, .boolean)] s := hK
        have er_4 : r_4 = nI wd := hw
        rw [er_4]
        refine lv_icmp_lt (tgt := 26) hx hb dX11_answerCell_21 (by decide) (fun c_5 => ?_) (fun c_5 => ?_)
        · skip
          have c_5 : c1 < wd := (nI_ltI (a := c1) (b := wd) (by omega) (by omega)).mp c_5
          refine lv_iload_n hx hb dX11_answerCell_26 rfl (lv_at hl 1 rfl) ?_
          refine lv_aload_n hx hb dX11_answerCell_27 rfl (lv_at hl 0 rfl) ?_
          have hPc := hP.sub (ws' := [(h0, .inr (12, [v0, .int ts, v2, v3, .int lf, .ref hX, v6, v7, v8, v9, v10, .int (nI ar1), v12, v13, .int ct, v15])), (hX, .inr (10, [.int e0, .int e1, g2, .ref hY, .int e4, .int e5, g6, g7, .int e8, .int e9, g10, .int e11])), (hY, .inr (4, [u0, .ref hZ, u2, .int u3, .int u4, .int u5])), (hZ, .inr (3, [.int (nI wd), t1, t2, t3, t4]))]) [0, 1, 2, 3] rfl
          have hDc := hD.sub (ws' := [(h0, .inr (12, [v0, .int ts, v2, v3, .int lf, .ref hX, v6, v7, v8, v9, v10, .int (nI ar1), v12, v13, .int ct, v15])), (hX, .inr (10, [.int e0, .int e1, g2, .ref hY, .int e4, .int e5, g6, g7, .int e8, .int e9, g10, .int e11])), (hY, .inr (4, [u0, .ref hZ, u2, .int u3, .int u4, .int u5])), (hZ, .inr (3, [.int (nI wd), t1, t2, t3, t4]))]) [0, 1, 2, 3] (by decide) rfl
          have hKc := hK.sub (tys' := [(cB, .byte), (cI, .int), (cJ, .long), (cZ, .boolean)]) [0, 1, 2, 3] rfl
          have hFc := va_free (wc := [(h0, .inr (12, [v0, .int ts, v2, v3, .int lf, .ref hX, v6, v7, v8, v9, v10, .int (nI ar1), v12, v13, .int ct, v15])), (hX, .inr (10, [.int e0, .int e1, g2, .ref hY, .int e4, .int e5, g6, g7, .int e8, .int e9, g10, .int e11])), (hY, .inr (4, [u0, .ref hZ, u2, .int u3, .int u4, .int u5])), (hZ, .inr (3, [.int (nI wd), t1, t2, t3, t4]))]) hD hS hA [0, 1, 2, 3] rfl
          refine va_calli (va_runV (As := []) (rest := [.int (nI i)]) ⟨hx, hb, hml, hown, hts⟩ (t_X11_width_1 l dC dI H.size cB cI cJ cZ h0 hX hY hZ ar1 wd e0 e1 e4 e5 e8 e9 e11 u3 u4 u5 g2 g6 g7 g10 u0 u2 t1 t2 t3 t4 v0 v2 v3 v6 v7 v8 v9 v10 v12 v13 v15 ts lf ct) (cwV 0 hts (gd_all (in_V kw_1330 kw_1332 kw_66 kw_181 kc_X11_width)) rfl rfl rfl (by decide +kernel) ⟨Nat.le_of_ble_eq_true rfl, Nat.le_of_ble_eq_true rfl⟩) ⟨fun a U g mk q => by obtain ⟨q0, q1, qP, qK, qD⟩ := q; exact ⟨q0, q1, qP, va_K.moved (u := U) (U := U.calling g mk a) (Vm.Alike.refl U.vm) qK, qD⟩, va_recv hKc hPc (ci := 12) (q0 := 0) rfl rfl, fun U hU hW => ⟨rfl, by rw [hU], by rw [hU]; exact hPc, va_K.moved hW.alike hKc, hDc.weaken (fun _ _ _ _ => trivial)⟩⟩ rfl rfl hl.1 rfl (lv_room (Nat.le_of_ble_eq_true rfl)) dX11_answerCell_28 ⟨Nat.le_of_ble_eq_true rfl, Nat.le_of_ble_eq_true rfl⟩) hS (fun q _ h => hFc q h) hFc (fun r_6 u t_ H1 locs ht hvm hw hB hz1 hk1 hS => ?_)
          obtain ⟨hP1, hK1, hD1⟩ := hB
          rw [ht] at hP1
          have hK1 := va_K.moved hvm.symm hK1
          obtain ⟨hP, hD⟩ := va_join (wr := []) (w1 := [(h0, .inr (12, [v0, .int ts, v2, v3, .int lf, .ref hX, v6, v7, v8, v9, v10, .int (nI ar1), v12, v13, .int ct, v15])), (hX, .inr (10, [.int e0, .int e1, g2, .ref hY, .int e4, .int e5, g6, g7, .int e8, .int e9, g10, .int e11])), (hY, .inr (4, [u0, .ref hZ, u2, .int u3, .int u4, .int u5])), (hZ, .inr (3, [.int (nI wd), t1, t2, t3, t4]))]) hP hD [0, 1, 2, 3] [] rfl rfl (by decide) (by decide) hk1 hFc hP1 hD1
          have hK := (hK.sub (tys' := []) [] rfl).app hK1
          generalize H1 = H at hP hS ⊢
          have hP : va_P (dC, dI) vwCl [(h0, .inr (12, [v0, .int ts, v2, v3, .int lf, .ref hX, v6, v7, v8, v9, v10, .int (nI ar1), v12, v13, .int ct, v15])), (hX, .inr (10, [.int e0, .int e1, g2, .ref hY, .int e4, .int e5, g6, g7, .int e8, .int e9, g10, .int e11])), (hY, .inr (4, [u0, .ref hZ, u2, .int u3, .int u4, .int u5])), (hZ, .inr (3, [.int (nI wd), t1, t2, t3, t4]))] H := hP
          have hD : va_D A [(h0, .inr (12, [v0, .int ts, v2, v3, .int lf, .ref hX, v6, v7, v8, v9, v10, .int (nI ar1), v12, v13, .int ct, v15])), (hX, .inr (10, [.int e0, .int e1, g2, .ref hY, .int e4, .int e5, g6, g7, .int e8, .int e9, g10, .int e11])), (hY, .inr (4, [u0, .ref hZ, u2, .int u3, .int u4, .int u5])), (hZ, .inr (3, [.int (nI wd), t1, t2, t3, t4]))] := hD
          have hK : va_K (dC, dI) vwCl [(cB, .byte), (cI, .int), (cJ, .long), (cZ, .boolean)] s := hK
          have er_6 : r_6 = nI wd := hw
          rw [er_6]
          refine lv_imul hx hb dX11_answerCell_31 ?_
          refine lv_topi (fun x_7 ex_7 => ?_)
          have ex_7 : x_7 = nI (i * wd) := ex_7.trans (pk_mul i wd)
          subst ex_7
          refine lv_iload_n hx hb dX11_answerCell_32 rfl (lv_at hl 2 rfl) ?_
          refine lv_iadd hx hb dX11_answerCell_33 ?_
          refine lv_topi (fun x_8 ex_8 => ?_)
          have ex_8 : x_8 = nI (i * wd + c1) := ex_8.trans (nI_add (i * wd) c1)
          subst ex_8
          have hP9 := hP.sub (ws' := [(h0, .inr (12, [v0, .int ts, v2, v3, .int lf, .ref hX, v6, v7, v8, v9, v10, .int (nI ar1), v12, v13, .int ct, v15])), (hX, .inr (10, [.int e0, .int e1, g2, .ref hY, .int e4, .int e5, g6, g7, .int e8, .int e9, g10, .int e11])), (hY, .inr (4, [u0, .ref hZ, u2, .int u3, .int u4, .int u5])), (hZ, .inr (3, [.int (nI wd), t1, t2, t3, t4]))]) [0, 1, 2, 3] rfl
          have hD9 := hD.sub (ws' := [(h0, .inr (12, [v0, .int ts, v2, v3, .int lf, .ref hX, v6, v7, v8, v9, v10, .int (nI ar1), v12, v13, .int ct, v15])), (hX, .inr (10, [.int e0, .int e1, g2, .ref hY, .int e4, .int e5, g6, g7, .int e8, .int e9, g10, .int e11])), (hY, .inr (4, [u0, .ref hZ, u2, .int u3, .int u4, .int u5])), (hZ, .inr (3, [.int (nI wd), t1, t2, t3, t4]))]) [0, 1, 2, 3] (by decide) rfl
          have hK9 := hK.sub (tys' := [(cB, .byte), (cI, .int), (cJ, .long), (cZ, .boolean)]) [0, 1, 2, 3] rfl
          exact W.iret (v := (nI (i * wd + c1))) hx hb hr (fun t_ ht hW => ⟨⟨(nI (i * wd + c1)), (), rfl, rfl, by rw [ht]; exact hP9, va_K.moved hW.alike hK9, hD9⟩, hS.F ht⟩) hS.2.2 dX11_answerCell_34
        · skip
          have c_5 : ¬ (c1 < wd) := fun h => c_5 ((nI_ltI (a := c1) (b := wd) (by omega) (by omega)).mpr h)
          exact absurd hc c_5
abbrev cs_t_X11_answerCell_o (cB cI cJ cZ : ClassId) (h0 hX hY hZ ar1 wd : Nat) (e0 e1 e4 e5 e8 e9 e11 u3 u4 u5 : Int32) (g2 g6 g7 g10 u0 u2 t1 t2 t3 t4 : Value) (v0 v2 v3 v6 v7 v8 v9 v10 v12 v13 v15 : Value) (ts lf ct : Int32) (x y : Int32) : va_W := [(h0, .inr (12, [v0, .int ts, v2, v3, .int lf, .ref hX, v6, v7, v8, v9, v10, .int (nI ar1), v12, v13, .int ct, v15])), (hX, .inr (10, [.int e0, .int e1, g2, .ref hY, .int e4, .int e5, g6, g7, .int e8, .int e9, g10, .int e11])), (hY, .inr (4, [u0, .ref hZ, u2, .int u3, .int u4, .int u5])), (hZ, .inr (3, [.int (nI wd), t1, t2, t3, t4]))]
abbrev pc_t_X11_answerCell_o (dC : Nat → ClassId) (dI : Nat → Nat → Nat) (sz : Nat) (cB cI cJ cZ : ClassId) (h0 hX hY hZ ar1 wd : Nat) (e0 e1 e4 e5 e8 e9 e11 u3 u4 u5 : Int32) (g2 g6 g7 g10 u0 u2 t1 t2 t3 t4 : Value) (v0 v2 v3 v6 v7 v8 v9 v10 v12 v13 v15 : Value) (ts lf ct : Int32) (x y : Int32) : Array Value → State → Prop := va_Pc [.ref h0, .int x, .int y] (fun U => U.heap.size = sz ∧ va_P (dC, dI) vwCl [(h0, .inr (12, [v0, .int ts, v2, v3, .int lf, .ref hX, v6, v7, v8, v9, v10, .int (nI ar1), v12, v13, .int ct, v15])), (hX, .inr (10, [.int e0, .int e1, g2, .ref hY, .int e4, .int e5, g6, g7, .int e8, .int e9, g10, .int e11])), (hY, .inr (4, [u0, .ref hZ, u2, .int u3, .int u4, .int u5])), (hZ, .inr (3, [.int (nI wd), t1, t2, t3, t4]))] U.heap ∧ va_K (dC, dI) vwCl [(cB, .byte), (cI, .int), (cJ, .long), (cZ, .boolean)] U ∧ va_D (fun _ => True) [(h0, .inr (12, [v0, .int ts, v2, v3, .int lf, .ref hX, v6, v7, v8, v9, v10, .int (nI ar1), v12, v13, .int ct, v15])), (hX, .inr (10, [.int e0, .int e1, g2, .ref hY, .int e4, .int e5, g6, g7, .int e8, .int e9, g10, .int e11])), (hY, .inr (4, [u0, .ref hZ, u2, .int u3, .int u4, .int u5])), (hZ, .inr (3, [.int (nI wd), t1, t2, t3, t4]))])
abbrev qc_t_X11_answerCell_o (dC : Nat → ClassId) (dI : Nat → Nat → Nat) (cB cI cJ cZ : ClassId) (h0 hX hY hZ ar1 wd : Nat) (e0 e1 e4 e5 e8 e9 e11 u3 u4 u5 : Int32) (g2 g6 g7 g10 u0 u2 t1 t2 t3 t4 : Value) (v0 v2 v3 v6 v7 v8 v9 v10 v12 v13 v15 : Value) (ts lf ct : Int32) (x y : Int32) (A : Nat → Prop) : Array Value → State → Outcome → State → Prop := va_Qi (fun (r : Int32) (u : Unit) => match u with | _ => r = -1) (fun (u : Unit) t_ => match u with | _ => va_P (dC, dI) vwCl [(h0, .inr (12, [v0, .int ts, v2, v3, .int lf, .ref hX, v6, v7, v8, v9, v10, .int (nI ar1), v12, v13, .int ct, v15])), (hX, .inr (10, [.int e0, .int e1, g2, .ref hY, .int e4, .int e5, g6, g7, .int e8, .int e9, g10, .int e11])), (hY, .inr (4, [u0, .ref hZ, u2, .int u3, .int u4, .int u5])), (hZ, .inr (3, [.int (nI wd), t1, t2, t3, t4]))] t_.heap ∧ va_K (dC, dI) vwCl [(cB, .byte), (cI, .int), (cJ, .long), (cZ, .boolean)] t_ ∧ va_D A [(h0, .inr (12, [v0, .int ts, v2, v3, .int lf, .ref hX, v6, v7, v8, v9, v10, .int (nI ar1), v12, v13, .int ct, v15])), (hX, .inr (10, [.int e0, .int e1, g2, .ref hY, .int e4, .int e5, g6, g7, .int e8, .int e9, g10, .int e11])), (hY, .inr (4, [u0, .ref hZ, u2, .int u3, .int u4, .int u5])), (hZ, .inr (3, [.int (nI wd), t1, t2, t3, t4]))]) A
set_option maxHeartbeats 4000000 in
set_option maxRecDepth 100000 in
theorem t_X11_answerCell_o (l : Launch) (dC : Nat → ClassId) (dI : Nat → Nat → Nat) (sz : Nat) (cB cI cJ cZ : ClassId) (h0 hX hY hZ ar1 wd : Nat) (e0 e1 e4 e5 e8 e9 e11 u3 u4 u5 : Int32) (g2 g6 g7 g10 u0 u2 t1 t2 t3 t4 : Value) (v0 v2 v3 v6 v7 v8 v9 v10 v12 v13 v15 : Value) (ts lf ct : Int32) (x y : Int32) (har : ar1 < 100000) (hwd : wd ≤ 8) (ho : x < 0 ∨ nI ar1 ≤ x ∨ y < 0 ∨ nI wd ≤ y) : Met l yX11_answerCell (wsOf yX11_answerCell cX11_answerCell 3 (some .int)) ({ frames := 1, cells := 0, slots := 0, locals := 60 }) (pc_t_X11_answerCell_o dC dI sz cB cI cJ cZ h0 hX hY hZ ar1 wd e0 e1 e4 e5 e8 e9 e11 u3 u4 u5 g2 g6 g7 g10 u0 u2 t1 t2 t3 t4 v0 v2 v3 v6 v7 v8 v9 v10 v12 v13 v15 ts lf ct x y) (qc_t_X11_answerCell_o dC dI cB cI cJ cZ h0 hX hY hZ ar1 wd e0 e1 e4 e5 e8 e9 e11 u3 u4 u5 g2 g6 g7 g10 u0 u2 t1 t2 t3 t4 v0 v2 v3 v6 v7 v8 v9 v10 v12 v13 v15 ts lf ct x y (va_A (cs_t_X11_answerCell_o cB cI cJ cZ h0 hX hY hZ ar1 wd e0 e1 e4 e5 e8 e9 e11 u3 u4 u5 g2 g6 g7 g10 u0 u2 t1 t2 t3 t4 v0 v2 v3 v6 v7 v8 v9 v10 v12 v13 v15 ts lf ct x y) sz)) 0 0 (va_A (cs_t_X11_answerCell_o cB cI cJ cZ h0 hX hY hZ ar1 wd e0 e1 e4 e5 e8 e9 e11 u3 u4 u5 g2 g6 g7 g10 u0 u2 t1 t2 t3 t4 v0 v2 v3 v6 v7 v8 v9 v10 v12 v13 v15 ts lf ct x y) sz) := by
  refine Met.ofW (cc := cX11_answerCell) (maxL := 3) (ret := (some .int)) (by decide) rfl ?_
  intro p e s m args below meth c s₁ B hml hv
  obtain ⟨rfl, hsz, hP, hK, hD0⟩ := hv
  have hx := B.exec
  have hb := B.bytes
  have hr := B.returns
  have hts := atoms_spec (ws := (wsOf yX11_answerCell cX11_answerCell 3 (some .int))) B.pre
  have hown : s.vm.findClass RX11 = some m.cls := findClass_of_methodNamed B.named
  have hlocks := B.notSynchronized
  subst hsz
  have hD := hD0.self (sz := s.heap.size)
  generalize hAe : va_A (cs_t_X11_answerCell_o cB cI cJ cZ h0 hX hY hZ ar1 wd e0 e1 e4 e5 e8 e9 e11 u3 u4 u5 g2 g6 g7 g10 u0 u2 t1 t2 t3 t4 v0 v2 v3 v6 v7 v8 v9 v10 v12 v13 v15 ts lf ct x y) s.heap.size = A at hD ⊢
  have hA : ∀ q : Nat, s.heap.size ≤ q → A q := fun q h => by rw [← hAe]; exact Or.inr h
  have hS : va_S A s.heap s.heap [] := va_S.rf
  have hP : va_P (dC, dI) vwCl [(h0, .inr (12, [v0, .int ts, v2, v3, .int lf, .ref hX, v6, v7, v8, v9, v10, .int (nI ar1), v12, v13, .int ct, v15])), (hX, .inr (10, [.int e0, .int e1, g2, .ref hY, .int e4, .int e5, g6, g7, .int e8, .int e9, g10, .int e11])), (hY, .inr (4, [u0, .ref hZ, u2, .int u3, .int u4, .int u5])), (hZ, .inr (3, [.int (nI wd), t1, t2, t3, t4]))] s.heap := hP
  have hl := lv_entry ([.ref h0, .int x, .int y]) (n := 3) (Nat.le_of_ble_eq_true rfl)
  rw [lg_entry_eq]
  generalize (lg_sl ([.ref h0, .int x, .int y]) ++ List.replicate (3 - (lg_sl ([.ref h0, .int x, .int y])).length) Slot.unset).toArray = ls at hl ⊢
  have hl : lv_has ls 3 [(0, .ref h0), (1, .int x), (2, .int y)] := hl
  refine lv_iload_n hx hb dX11_answerCell_0 rfl (lv_at hl 1 rfl) ?_
  refine lv_if_lt (tgt := 24) hx hb dX11_answerCell_1 (by decide) (fun c_1 => ?_) (fun c_1 => ?_)
  · skip
    refine lv_iconst (v := (-1)) hx hb dX11_answerCell_24 (by decide) ?_
    have hP9 := hP.sub (ws' := [(h0, .inr (12, [v0, .int ts, v2, v3, .int lf, .ref hX, v6, v7, v8, v9, v10, .int (nI ar1), v12, v13, .int ct, v15])), (hX, .inr (10, [.int e0, .int e1, g2, .ref hY, .int e4, .int e5, g6, g7, .int e8, .int e9, g10, .int e11])), (hY, .inr (4, [u0, .ref hZ, u2, .int u3, .int u4, .int u5])), (hZ, .inr (3, [.int (nI wd), t1, t2, t3, t4]))]) [0, 1, 2, 3] rfl
    have hD9 := hD.sub (ws' := [(h0, .inr (12, [v0, .int ts, v2, v3, .int lf, .ref hX, v6, v7, v8, v9, v10, .int (nI ar1), v12, v13, .int ct, v15])), (hX, .inr (10, [.int e0, .int e1, g2, .ref hY, .int e4, .int e5, g6, g7, .int e8, .int e9, g10, .int e11])), (hY, .inr (4, [u0, .ref hZ, u2, .int u3, .int u4, .int u5])), (hZ, .inr (3, [.int (nI wd), t1, t2, t3, t4]))]) [0, 1, 2, 3] (by decide) rfl
    have hK9 := hK.sub (tys' := [(cB, .byte), (cI, .int), (cJ, .long), (cZ, .boolean)]) [0, 1, 2, 3] rfl
    exact W.iret (v := (-1)) hx hb hr (fun t_ ht hW => ⟨⟨(-1), (), rfl, rfl, by rw [ht]; exact hP9, va_K.moved hW.alike hK9, hD9⟩, hS.F ht⟩) hS.2.2 dX11_answerCell_25
  · skip
    refine lv_iload_n hx hb dX11_answerCell_4 rfl (lv_at hl 1 rfl) ?_
    refine lv_aload_n hx hb dX11_answerCell_5 rfl (lv_at hl 0 rfl) ?_
    refine va_get (D := (dC, dI)) (ci := 12) (v := .int (nI ar1)) (C := RX11) (T := TX11) (N := 16) hx hb hts (fun w h => List.mem_cons_of_mem _ (uG_X11 w h)) hown hK hP 0 rfl rfl 11 (by decide) (hts _ (List.mem_cons_of_mem _ kw_439)) (fun _ h9 => h9) rfl dX11_answerCell_6 ?_
    refine lv_icmp_ge (tgt := 24) hx hb dX11_answerCell_9 (by decide) (fun c_2 => ?_) (fun c_2 => ?_)
    · skip
      refine lv_iconst (v := (-1)) hx hb dX11_answerCell_24 (by decide) ?_
      have hP9 := hP.sub (ws' := [(h0, .inr (12, [v0, .int ts, v2, v3, .int lf, .ref hX, v6, v7, v8, v9, v10, .int (nI ar1), v12, v13, .int ct, v15])), (hX, .inr (10, [.int e0, .int e1, g2, .ref hY, .int e4, .int e5, g6, g7, .int e8, .int e9, g10, .int e11])), (hY, .inr (4, [u0, .ref hZ, u2, .int u3, .int u4, .int u5])), (hZ, .inr (3, [.int (nI wd), t1, t2, t3, t4]))]) [0, 1, 2, 3] rfl
      have hD9 := hD.sub (ws' := [(h0, .inr (12, [v0, .int ts, v2, v3, .int lf, .ref hX, v6, v7, v8, v9, v10, .int (nI ar1), v12, v13, .int ct, v15])), (hX, .inr (10, [.int e0, .int e1, g2, .ref hY, .int e4, .int e5, g6, g7, .int e8, .int e9, g10, .int e11])), (hY, .inr (4, [u0, .ref hZ, u2, .int u3, .int u4, .int u5])), (hZ, .inr (3, [.int (nI wd), t1, t2, t3, t4]))]) [0, 1, 2, 3] (by decide) rfl
      have hK9 := hK.sub (tys' := [(cB, .byte), (cI, .int), (cJ, .long), (cZ, .boolean)]) [0, 1, 2, 3] rfl
      exact W.iret (v := (-1)) hx hb hr (fun t_ ht hW => ⟨⟨(-1), (), rfl, rfl, by rw [ht]; exact hP9, va_K.moved hW.alike hK9, hD9⟩, hS.F ht⟩) hS.2.2 dX11_answerCell_25
    · skip
      refine lv_iload_n hx hb dX11_answerCell_12 rfl (lv_at hl 2 rfl) ?_
      refine lv_if_lt (tgt := 24) hx hb dX11_answerCell_13 (by decide) (fun c_3 => ?_) (fun c_3 => ?_)
      · skip
        refine lv_iconst (v := (-1)) hx hb dX11_answerCell_24 (by decide) ?_
        have hP9 := hP.sub (ws' := [(h0, .inr (12, [v0, .int ts, v2, v3, .int lf, .ref hX, v6, v7, v8, v9, v10, .int (nI ar1), v12, v13, .int ct, v15])), (hX, .inr (10, [.int e0, .int e1, g2, .ref hY, .int e4, .int e5, g6, g7, .int e8, .int e9, g10, .int e11])), (hY, .inr (4, [u0, .ref hZ, u2, .int u3, .int u4, .int u5])), (hZ, .inr (3, [.int (nI wd), t1, t2, t3, t4]))]) [0, 1, 2, 3] rfl
        have hD9 := hD.sub (ws' := [(h0, .inr (12, [v0, .int ts, v2, v3, .int lf, .ref hX, v6, v7, v8, v9, v10, .int (nI ar1), v12, v13, .int ct, v15])), (hX, .inr (10, [.int e0, .int e1, g2, .ref hY, .int e4, .int e5, g6, g7, .int e8, .int e9, g10, .int e11])), (hY, .inr (4, [u0, .ref hZ, u2, .int u3, .int u4, .int u5])), (hZ, .inr (3, [.int (nI wd), t1, t2, t3, t4]))]) [0, 1, 2, 3] (by decide) rfl
        have hK9 := hK.sub (tys' := [(cB, .byte), (cI, .int), (cJ, .long), (cZ, .boolean)]) [0, 1, 2, 3] rfl
        exact W.iret (v := (-1)) hx hb hr (fun t_ ht hW => ⟨⟨(-1), (), rfl, rfl, by rw [ht]; exact hP9, va_K.moved hW.alike hK9, hD9⟩, hS.F ht⟩) hS.2.2 dX11_answerCell_25
      · skip
        refine lv_iload_n hx hb dX11_answerCell_16 rfl (lv_at hl 2 rfl) ?_
        refine lv_aload_n hx hb dX11_answerCell_17 rfl (lv_at hl 0 rfl) ?_
        have hPc := hP.sub (ws' := [(h0, .inr (12, [v0, .int ts, v2, v3, .int lf, .ref hX, v6, v7, v8, v9, v10, .int (nI ar1), v12, v13, .int ct, v15])), (hX, .inr (10, [.int e0, .int e1, g2, .ref hY, .int e4, .int e5, g6, g7, .int e8, .int e9, g10, .int e11])), (hY, .inr (4, [u0, .ref hZ, u2, .int u3, .int u4, .int u5])), (hZ, .inr (3, [.int (nI wd), t1, t2, t3, t4]))]) [0, 1, 2, 3] rfl
        have hDc := hD.sub (ws' := [(h0, .inr (12, [v0, .int ts, v2, v3, .int lf, .ref hX, v6, v7, v8, v9, v10, .int (nI ar1), v12, v13, .int ct, v15])), (hX, .inr (10, [.int e0, .int e1, g2, .ref hY, .int e4, .int e5, g6, g7, .int e8, .int e9, g10, .int e11])), (hY, .inr (4, [u0, .ref hZ, u2, .int u3, .int u4, .int u5])), (hZ, .inr (3, [.int (nI wd), t1, t2, t3, t4]))]) [0, 1, 2, 3] (by decide) rfl
        have hKc := hK.sub (tys' := [(cB, .byte), (cI, .int), (cJ, .long), (cZ, .boolean)]) [0, 1, 2, 3] rfl
        have hFc := va_free (wc := [(h0, .inr (12, [v0, .int ts, v2, v3, .int lf, .ref hX, v6, v7, v8, v9, v10, .int (nI ar1), v12, v13, .int ct, v15])), (hX, .inr (10, [.int e0, .int e1, g2, .ref hY, .int e4, .int e5, g6, g7, .int e8, .int e9, g10, .int e11])), (hY, .inr (4, [u0, .ref hZ, u2, .int u3, .int u4, .int u5])), (hZ, .inr (3, [.int (nI wd), t1, t2, t3, t4]))]) hD hS hA [0, 1, 2, 3] rfl
        refine va_calli (va_runV (As := []) (rest := [.int y]) ⟨hx, hb, hml, hown, hts⟩ (t_X11_width_1 l dC dI s.heap.size cB cI cJ cZ h0 hX hY hZ ar1 wd e0 e1 e4 e5 e8 e9 e11 u3 u4 u5 g2 g6 g7 g10 u0 u2 t1 t2 t3 t4 v0 v2 v3 v6 v7 v8 v9 v10 v12 v13 v15 ts lf ct) (cwV 0 hts (gd_all (in_V kw_1330 kw_1332 kw_66 kw_181 kc_X11_width)) rfl rfl rfl (by decide +kernel) ⟨Nat.le_of_ble_eq_true rfl, Nat.le_of_ble_eq_true rfl⟩) ⟨fun a U g mk q => by obtain ⟨q0, q1, qP, qK, qD⟩ := q; exact ⟨q0, q1, qP, va_K.moved (u := U) (U := U.calling g mk a) (Vm.Alike.refl U.vm) qK, qD⟩, va_recv hKc hPc (ci := 12) (q0 := 0) rfl rfl, fun U hU hW => ⟨rfl, by rw [hU], by rw [hU]; exact hPc, va_K.moved hW.alike hKc, hDc.weaken (fun _ _ _ _ => trivial)⟩⟩ rfl rfl hl.1 rfl (lv_room (Nat.le_of_ble_eq_true rfl)) dX11_answerCell_18 ⟨Nat.le_of_ble_eq_true rfl, Nat.le_of_ble_eq_true rfl⟩) hS (fun q _ h => hFc q h) hFc (fun r_4 u t_ H1 locs ht hvm hw hB hz1 hk1 hS => ?_)
        obtain ⟨hP1, hK1, hD1⟩ := hB
        rw [ht] at hP1
        have hK1 := va_K.moved hvm.symm hK1
        obtain ⟨hP, hD⟩ := va_join (wr := []) (w1 := [(h0, .inr (12, [v0, .int ts, v2, v3, .int lf, .ref hX, v6, v7, v8, v9, v10, .int (nI ar1), v12, v13, .int ct, v15])), (hX, .inr (10, [.int e0, .int e1, g2, .ref hY, .int e4, .int e5, g6, g7, .int e8, .int e9, g10, .int e11])), (hY, .inr (4, [u0, .ref hZ, u2, .int u3, .int u4, .int u5])), (hZ, .inr (3, [.int (nI wd), t1, t2, t3, t4]))]) hP hD [0, 1, 2, 3] [] rfl rfl (by decide) (by decide) hk1 hFc hP1 hD1
        have hK := (hK.sub (tys' := []) [] rfl).app hK1
        generalize H1 = H at hP hS ⊢
        have hP : va_P (dC, dI) vwCl [(h0, .inr (12, [v0, .int ts, v2, v3, .int lf, .ref hX, v6, v7, v8, v9, v10, .int (nI ar1), v12, v13, .int ct, v15])), (hX, .inr (10, [.int e0, .int e1, g2, .ref hY, .int e4, .int e5, g6, g7, .int e8, .int e9, g10, .int e11])), (hY, .inr (4, [u0, .ref hZ, u2, .int u3, .int u4, .int u5])), (hZ, .inr (3, [.int (nI wd), t1, t2, t3, t4]))] H := hP
        have hD : va_D A [(h0, .inr (12, [v0, .int ts, v2, v3, .int lf, .ref hX, v6, v7, v8, v9, v10, .int (nI ar1), v12, v13, .int ct, v15])), (hX, .inr (10, [.int e0, .int e1, g2, .ref hY, .int e4, .int e5, g6, g7, .int e8, .int e9, g10, .int e11])), (hY, .inr (4, [u0, .ref hZ, u2, .int u3, .int u4, .int u5])), (hZ, .inr (3, [.int (nI wd), t1, t2, t3, t4]))] := hD
        have hK : va_K (dC, dI) vwCl [(cB, .byte), (cI, .int), (cJ, .long), (cZ, .boolean)] s := hK
        have er_4 : r_4 = nI wd := hw
        rw [er_4]
        refine lv_icmp_lt (tgt := 26) hx hb dX11_answerCell_21 (by decide) (fun c_5 => ?_) (fun c_5 => ?_)
        · skip
          exact absurd ho (fun h => h.elim c_1 (fun h => h.elim c_2 (fun h => h.elim c_3 (fun h => absurd h (Int32.not_le.mpr c_5)))))
        · skip
          refine lv_iconst (v := (-1)) hx hb dX11_answerCell_24 (by decide) ?_
          have hP9 := hP.sub (ws' := [(h0, .inr (12, [v0, .int ts, v2, v3, .int lf, .ref hX, v6, v7, v8, v9, v10, .int (nI ar1), v12, v13, .int ct, v15])), (hX, .inr (10, [.int e0, .int e1, g2, .ref hY, .int e4, .int e5, g6, g7, .int e8, .int e9, g10, .int e11])), (hY, .inr (4, [u0, .ref hZ, u2, .int u3, .int u4, .int u5])), (hZ, .inr (3, [.int (nI wd), t1, t2, t3, t4]))]) [0, 1, 2, 3] rfl
          have hD9 := hD.sub (ws' := [(h0, .inr (12, [v0, .int ts, v2, v3, .int lf, .ref hX, v6, v7, v8, v9, v10, .int (nI ar1), v12, v13, .int ct, v15])), (hX, .inr (10, [.int e0, .int e1, g2, .ref hY, .int e4, .int e5, g6, g7, .int e8, .int e9, g10, .int e11])), (hY, .inr (4, [u0, .ref hZ, u2, .int u3, .int u4, .int u5])), (hZ, .inr (3, [.int (nI wd), t1, t2, t3, t4]))]) [0, 1, 2, 3] (by decide) rfl
          have hK9 := hK.sub (tys' := [(cB, .byte), (cI, .int), (cJ, .long), (cZ, .boolean)]) [0, 1, 2, 3] rfl
          exact W.iret (v := (-1)) hx hb hr (fun t_ ht hW => ⟨⟨(-1), (), rfl, rfl, by rw [ht]; exact hP9, va_K.moved hW.alike hK9, hD9⟩, hS.F ht⟩) hS.2.2 dX11_answerCell_25
