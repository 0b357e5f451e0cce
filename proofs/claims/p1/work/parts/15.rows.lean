def hvI (x : Int32) : Int32 := if x = 0 then 0 else 1
def sumI (tf : Nat → Int32) : Nat → Int32 | 0 => 0 | n + 1 => sumI tf n + tf n
theorem dX7_exists_0 : decode cX7_exists 0 = .ok (.iload_n 1, 1) := by decide +kernel
theorem dX7_exists_1 : decode cX7_exists 1 = .ok (.ifCond .lt 24, 3) := by decide +kernel
theorem dX7_exists_4 : decode cX7_exists 4 = .ok (.iload_n 1, 1) := by decide +kernel
theorem dX7_exists_5 : decode cX7_exists 5 = .ok (.aload_n 0, 1) := by decide +kernel
theorem dX7_exists_6 : decode cX7_exists 6 = .ok (.getfield 40, 3) := by decide +kernel
theorem dX7_exists_9 : decode cX7_exists 9 = .ok (.if_icmp .ge 16, 3) := by decide +kernel
theorem dX7_exists_25 : decode cX7_exists 25 = .ok (.iconst 0, 1) := by decide +kernel
theorem dX7_exists_26 : decode cX7_exists 26 = .ok (.ireturn, 1) := by decide +kernel
abbrev cs_t_X7_exists_out (cB cI cJ cZ : ClassId) (h0 hC : Nat) (k : Nat) (cf : Nat → Int32) (wm : Int64) (wv wn wt wx wy : Value) (d : Int32) (x : Int32) : va_W := [(h0, .inr (8, [.int (nI k), .long wm, .ref hC, wv, wn, wt, wx, wy, .int d])), (hC, .inl (cI, 6, .inl cf))]
abbrev pc_t_X7_exists_out (dC : Nat → ClassId) (dI : Nat → Nat → Nat) (sz : Nat) (cB cI cJ cZ : ClassId) (h0 hC : Nat) (k : Nat) (cf : Nat → Int32) (wm : Int64) (wv wn wt wx wy : Value) (d : Int32) (x : Int32) : Array Value → State → Prop := va_Pc [.ref h0, .int x] (fun U => U.heap.size = sz ∧ va_P (dC, dI) vwCl [(h0, .inr (8, [.int (nI k), .long wm, .ref hC, wv, wn, wt, wx, wy, .int d])), (hC, .inl (cI, 6, .inl cf))] U.heap ∧ va_K (dC, dI) vwCl [(cB, .byte), (cI, .int), (cJ, .long), (cZ, .boolean)] U ∧ va_D (fun _ => True) [(h0, .inr (8, [.int (nI k), .long wm, .ref hC, wv, wn, wt, wx, wy, .int d])), (hC, .inl (cI, 6, .inl cf))])
abbrev qc_t_X7_exists_out (dC : Nat → ClassId) (dI : Nat → Nat → Nat) (cB cI cJ cZ : ClassId) (h0 hC : Nat) (k : Nat) (cf : Nat → Int32) (wm : Int64) (wv wn wt wx wy : Value) (d : Int32) (x : Int32) (A : Nat → Prop) : Array Value → State → Outcome → State → Prop := va_Qi (fun (r : Int32) (u : Unit) => match u with | _ => r = 0) (fun (u : Unit) t_ => match u with | _ => va_P (dC, dI) vwCl [(h0, .inr (8, [.int (nI k), .long wm, .ref hC, wv, wn, wt, wx, wy, .int d])), (hC, .inl (cI, 6, .inl cf))] t_.heap ∧ va_K (dC, dI) vwCl [(cB, .byte), (cI, .int), (cJ, .long), (cZ, .boolean)] t_ ∧ va_D A [(h0, .inr (8, [.int (nI k), .long wm, .ref hC, wv, wn, wt, wx, wy, .int d])), (hC, .inl (cI, 6, .inl cf))]) A
set_option maxHeartbeats 4000000 in
set_option maxRecDepth 100000 in
theorem t_X7_exists_out (l : Launch) (dC : Nat → ClassId) (dI : Nat → Nat → Nat) (sz : Nat) (cB cI cJ cZ : ClassId) (h0 hC : Nat) (k : Nat) (cf : Nat → Int32) (wm : Int64) (wv wn wt wx wy : Value) (d : Int32) (x : Int32) (hk : k ≤ 6) (ho : x < 0 ∨ nI k ≤ x) : Met l yX7_exists (wsOf yX7_exists cX7_exists 2 (some .boolean)) ({ frames := 0, cells := 0, slots := 0, locals := 0 }) (pc_t_X7_exists_out dC dI sz cB cI cJ cZ h0 hC k cf wm wv wn wt wx wy d x) (qc_t_X7_exists_out dC dI cB cI cJ cZ h0 hC k cf wm wv wn wt wx wy d x (va_A (cs_t_X7_exists_out cB cI cJ cZ h0 hC k cf wm wv wn wt wx wy d x) sz)) 0 0 (va_A (cs_t_X7_exists_out cB cI cJ cZ h0 hC k cf wm wv wn wt wx wy d x) sz) := by
  refine Met.ofW (cc := cX7_exists) (maxL := 2) (ret := (some .boolean)) (by decide) rfl ?_
  intro p e s m args below meth c s₁ B hml hv
  obtain ⟨rfl, hsz, hP, hK, hD0⟩ := hv
  have hx := B.exec
  have hb := B.bytes
  have hr := B.returns
  have hts := atoms_spec (ws := (wsOf yX7_exists cX7_exists 2 (some .boolean))) B.pre
  have hown : s.vm.findClass RX7 = some m.cls := findClass_of_methodNamed B.named
  have hlocks := B.notSynchronized
  subst hsz
  have hD := hD0.self (sz := s.heap.size)
  generalize hAe : va_A (cs_t_X7_exists_out cB cI cJ cZ h0 hC k cf wm wv wn wt wx wy d x) s.heap.size = A at hD ⊢
  have hA : ∀ q : Nat, s.heap.size ≤ q → A q := fun q h => by rw [← hAe]; exact Or.inr h
  have hS : va_S A s.heap s.heap [] := va_S.rf
  have hP : va_P (dC, dI) vwCl [(h0, .inr (8, [.int (nI k), .long wm, .ref hC, wv, wn, wt, wx, wy, .int d])), (hC, .inl (cI, 6, .inl cf))] s.heap := hP
  have hl := lv_entry ([.ref h0, .int x]) (n := 2) (Nat.le_of_ble_eq_true rfl)
  rw [lg_entry_eq]
  generalize (lg_sl ([.ref h0, .int x]) ++ List.replicate (2 - (lg_sl ([.ref h0, .int x])).length) Slot.unset).toArray = ls at hl ⊢
  have hl : lv_has ls 2 [(0, .ref h0), (1, .int x)] := hl
  refine lv_iload_n hx hb dX7_exists_0 rfl (lv_at hl 1 rfl) ?_
  refine lv_if_lt (tgt := 25) hx hb dX7_exists_1 (by decide) (fun c_1 => ?_) (fun c_1 => ?_)
  · skip
    refine lv_iconst (v := 0) hx hb dX7_exists_25 (by decide) ?_
    have hP9 := hP.sub (ws' := [(h0, .inr (8, [.int (nI k), .long wm, .ref hC, wv, wn, wt, wx, wy, .int d])), (hC, .inl (cI, 6, .inl cf))]) [0, 1] rfl
    have hD9 := hD.sub (ws' := [(h0, .inr (8, [.int (nI k), .long wm, .ref hC, wv, wn, wt, wx, wy, .int d])), (hC, .inl (cI, 6, .inl cf))]) [0, 1] (by decide) rfl
    have hK9 := hK.sub (tys' := [(cB, .byte), (cI, .int), (cJ, .long), (cZ, .boolean)]) [0, 1, 2, 3] rfl
    exact W.zret (v := 0) hx hb hr (by rfl) (fun t_ ht hW => ⟨⟨0, (), rfl, rfl, by rw [ht]; exact hP9, va_K.moved hW.alike hK9, hD9⟩, hS.F ht⟩) hS.2.2 dX7_exists_26
  · skip
    refine lv_iload_n hx hb dX7_exists_4 rfl (lv_at hl 1 rfl) ?_
    refine lv_aload_n hx hb dX7_exists_5 rfl (lv_at hl 0 rfl) ?_
    refine va_get (D := (dC, dI)) (ci := 8) (v := .int (nI k)) (C := RX7) (T := TX7) (N := 9) hx hb hts (fun w h => List.mem_cons_of_mem _ (uG_X7 w h)) hown hK hP 0 rfl rfl 0 (by decide) (hts _ (List.mem_cons_of_mem _ kw_223)) (fun _ h9 => h9) rfl dX7_exists_6 ?_
    refine lv_icmp_ge (tgt := 25) hx hb dX7_exists_9 (by decide) (fun c_2 => ?_) (fun c_2 => ?_)
    · skip
      refine lv_iconst (v := 0) hx hb dX7_exists_25 (by decide) ?_
      have hP9 := hP.sub (ws' := [(h0, .inr (8, [.int (nI k), .long wm, .ref hC, wv, wn, wt, wx, wy, .int d])), (hC, .inl (cI, 6, .inl cf))]) [0, 1] rfl
      have hD9 := hD.sub (ws' := [(h0, .inr (8, [.int (nI k), .long wm, .ref hC, wv, wn, wt, wx, wy, .int d])), (hC, .inl (cI, 6, .inl cf))]) [0, 1] (by decide) rfl
      have hK9 := hK.sub (tys' := [(cB, .byte), (cI, .int), (cJ, .long), (cZ, .boolean)]) [0, 1, 2, 3] rfl
      exact W.zret (v := 0) hx hb hr (by rfl) (fun t_ ht hW => ⟨⟨0, (), rfl, rfl, by rw [ht]; exact hP9, va_K.moved hW.alike hK9, hD9⟩, hS.F ht⟩) hS.2.2 dX7_exists_26
    · skip
      exact absurd ho (not_or.mpr ⟨c_1, c_2⟩)
theorem dX7_holds_0 : decode cX7_holds 0 = .ok (.aload_n 0, 1) := by decide +kernel
theorem dX7_holds_1 : decode cX7_holds 1 = .ok (.iload_n 1, 1) := by decide +kernel
theorem dX7_holds_2 : decode cX7_holds 2 = .ok (.invokevirtual 44, 3) := by decide +kernel
theorem dX7_holds_5 : decode cX7_holds 5 = .ok (.ifCond .eq 31, 3) := by decide +kernel
theorem dX7_holds_36 : decode cX7_holds 36 = .ok (.iconst 0, 1) := by decide +kernel
theorem dX7_holds_37 : decode cX7_holds 37 = .ok (.ireturn, 1) := by decide +kernel
abbrev cs_t_X7_holds_oi (cB cI cJ cZ : ClassId) (h0 hC hH : Nat) (k : Nat) (cf tf : Nat → Int32) (wm : Int64) (wv wn wx wy : Value) (d : Int32) (x y : Int32) : va_W := [(h0, .inr (8, [.int (nI k), .long wm, .ref hC, wv, wn, .ref hH, wx, wy, .int d])), (hC, .inl (cI, 6, .inl cf)), (hH, .inl (cB, 48, .inl tf))]
abbrev pc_t_X7_holds_oi (dC : Nat → ClassId) (dI : Nat → Nat → Nat) (sz : Nat) (cB cI cJ cZ : ClassId) (h0 hC hH : Nat) (k : Nat) (cf tf : Nat → Int32) (wm : Int64) (wv wn wx wy : Value) (d : Int32) (x y : Int32) : Array Value → State → Prop := va_Pc [.ref h0, .int x, .int y] (fun U => U.heap.size = sz ∧ va_P (dC, dI) vwCl [(h0, .inr (8, [.int (nI k), .long wm, .ref hC, wv, wn, .ref hH, wx, wy, .int d])), (hC, .inl (cI, 6, .inl cf)), (hH, .inl (cB, 48, .inl tf))] U.heap ∧ va_K (dC, dI) vwCl [(cB, .byte), (cI, .int), (cJ, .long), (cZ, .boolean)] U ∧ va_D (fun _ => True) [(h0, .inr (8, [.int (nI k), .long wm, .ref hC, wv, wn, .ref hH, wx, wy, .int d])), (hC, .inl (cI, 6, .inl cf)), (hH, .inl (cB, 48, .inl tf))])
abbrev qc_t_X7_holds_oi (dC : Nat → ClassId) (dI : Nat → Nat → Nat) (cB cI cJ cZ : ClassId) (h0 hC hH : Nat) (k : Nat) (cf tf : Nat → Int32) (wm : Int64) (wv wn wx wy : Value) (d : Int32) (x y : Int32) (A : Nat → Prop) : Array Value → State → Outcome → State → Prop := va_Qi (fun (r : Int32) (u : Unit) => match u with | _ => r = 0) (fun (u : Unit) t_ => match u with | _ => va_P (dC, dI) vwCl [(h0, .inr (8, [.int (nI k), .long wm, .ref hC, wv, wn, .ref hH, wx, wy, .int d])), (hC, .inl (cI, 6, .inl cf)), (hH, .inl (cB, 48, .inl tf))] t_.heap ∧ va_K (dC, dI) vwCl [(cB, .byte), (cI, .int), (cJ, .long), (cZ, .boolean)] t_ ∧ va_D A [(h0, .inr (8, [.int (nI k), .long wm, .ref hC, wv, wn, .ref hH, wx, wy, .int d])), (hC, .inl (cI, 6, .inl cf)), (hH, .inl (cB, 48, .inl tf))]) A
set_option maxHeartbeats 4000000 in
set_option maxRecDepth 100000 in
theorem t_X7_holds_oi (l : Launch) (dC : Nat → ClassId) (dI : Nat → Nat → Nat) (sz : Nat) (cB cI cJ cZ : ClassId) (h0 hC hH : Nat) (k : Nat) (cf tf : Nat → Int32) (wm : Int64) (wv wn wx wy : Value) (d : Int32) (x y : Int32) (hk : k ≤ 6) (ho : x < 0 ∨ nI k ≤ x) : Met l yX7_holds (wsOf yX7_holds cX7_holds 3 (some .boolean)) ({ frames := 1, cells := 0, slots := 0, locals := 21 }) (pc_t_X7_holds_oi dC dI sz cB cI cJ cZ h0 hC hH k cf tf wm wv wn wx wy d x y) (qc_t_X7_holds_oi dC dI cB cI cJ cZ h0 hC hH k cf tf wm wv wn wx wy d x y (va_A (cs_t_X7_holds_oi cB cI cJ cZ h0 hC hH k cf tf wm wv wn wx wy d x y) sz)) 0 0 (va_A (cs_t_X7_holds_oi cB cI cJ cZ h0 hC hH k cf tf wm wv wn wx wy d x y) sz) := by
  refine Met.ofW (cc := cX7_holds) (maxL := 3) (ret := (some .boolean)) (by decide) rfl ?_
  intro p e s m args below meth c s₁ B hml hv
  obtain ⟨rfl, hsz, hP, hK, hD0⟩ := hv
  have hx := B.exec
  have hb := B.bytes
  have hr := B.returns
  have hts := atoms_spec (ws := (wsOf yX7_holds cX7_holds 3 (some .boolean))) B.pre
  have hown : s.vm.findClass RX7 = some m.cls := findClass_of_methodNamed B.named
  have hlocks := B.notSynchronized
  subst hsz
  have hD := hD0.self (sz := s.heap.size)
  generalize hAe : va_A (cs_t_X7_holds_oi cB cI cJ cZ h0 hC hH k cf tf wm wv wn wx wy d x y) s.heap.size = A at hD ⊢
  have hA : ∀ q : Nat, s.heap.size ≤ q → A q := fun q h => by rw [← hAe]; exact Or.inr h
  have hS : va_S A s.heap s.heap [] := va_S.rf
  have hP : va_P (dC, dI) vwCl [(h0, .inr (8, [.int (nI k), .long wm, .ref hC, wv, wn, .ref hH, wx, wy, .int d])), (hC, .inl (cI, 6, .inl cf)), (hH, .inl (cB, 48, .inl tf))] s.heap := hP
  have hl := lv_entry ([.ref h0, .int x, .int y]) (n := 3) (Nat.le_of_ble_eq_true rfl)
  rw [lg_entry_eq]
  generalize (lg_sl ([.ref h0, .int x, .int y]) ++ List.replicate (3 - (lg_sl ([.ref h0, .int x, .int y])).length) Slot.unset).toArray = ls at hl ⊢
  have hl : lv_has ls 3 [(0, .ref h0), (1, .int x), (2, .int y)] := hl
  refine lv_aload_n hx hb dX7_holds_0 rfl (lv_at hl 0 rfl) ?_
  refine lv_iload_n hx hb dX7_holds_1 rfl (lv_at hl 1 rfl) ?_
  have hPc := hP.sub (ws' := [(h0, .inr (8, [.int (nI k), .long wm, .ref hC, wv, wn, .ref hH, wx, wy, .int d])), (hC, .inl (cI, 6, .inl cf))]) [0, 1] rfl
  have hDc := hD.sub (ws' := [(h0, .inr (8, [.int (nI k), .long wm, .ref hC, wv, wn, .ref hH, wx, wy, .int d])), (hC, .inl (cI, 6, .inl cf))]) [0, 1] (by decide) rfl
  have hKc := hK.sub (tys' := [(cB, .byte), (cI, .int), (cJ, .long), (cZ, .boolean)]) [0, 1, 2, 3] rfl
  have hFc := va_free (wc := [(h0, .inr (8, [.int (nI k), .long wm, .ref hC, wv, wn, .ref hH, wx, wy, .int d])), (hC, .inl (cI, 6, .inl cf))]) hD hS hA [0, 1] rfl
  refine va_calli (va_runV (As := [.int x]) (rest := []) ⟨hx, hb, hml, hown, hts⟩ (t_X7_exists_out l dC dI s.heap.size cB cI cJ cZ h0 hC k cf wm wv wn (.ref hH) wx wy d x hk ho) (cwV 1 hts (gd_all (in_V kw_1237 kw_1230 kw_1231 kw_182 kc_X7_exists)) rfl rfl rfl (by decide +kernel) ⟨Nat.le_of_ble_eq_true rfl, Nat.le_of_ble_eq_true rfl⟩) ⟨fun a U g mk q => by obtain ⟨q0, q1, qP, qK, qD⟩ := q; exact ⟨q0, q1, qP, va_K.moved (u := U) (U := U.calling g mk a) (Vm.Alike.refl U.vm) qK, qD⟩, va_recv hKc hPc (ci := 8) (q0 := 0) rfl rfl, fun U hU hW => ⟨rfl, by rw [hU], by rw [hU]; exact hPc, va_K.moved hW.alike hKc, hDc.weaken (fun _ _ _ _ => trivial)⟩⟩ rfl rfl hl.1 rfl (lv_room (Nat.le_of_ble_eq_true rfl)) dX7_holds_2 ⟨Nat.le_of_ble_eq_true rfl, Nat.le_of_ble_eq_true rfl⟩) hS (fun q _ h => hFc q h) hFc (fun r_1 u t_ H1 locs ht hvm hw hB hz1 hk1 hS => ?_)
  obtain ⟨hP1, hK1, hD1⟩ := hB
  rw [ht] at hP1
  have hK1 := va_K.moved hvm.symm hK1
  obtain ⟨hP, hD⟩ := va_join (wr := [(hH, .inl (cB, 48, .inl tf))]) (w1 := [(h0, .inr (8, [.int (nI k), .long wm, .ref hC, wv, wn, .ref hH, wx, wy, .int d])), (hC, .inl (cI, 6, .inl cf))]) hP hD [0, 1] [2] rfl rfl (by decide) (by decide) hk1 hFc hP1 hD1
  have hK := (hK.sub (tys' := []) [] rfl).app hK1
  generalize H1 = H at hP hS ⊢
  have hP : va_P (dC, dI) vwCl [(hH, .inl (cB, 48, .inl tf)), (h0, .inr (8, [.int (nI k), .long wm, .ref hC, wv, wn, .ref hH, wx, wy, .int d])), (hC, .inl (cI, 6, .inl cf))] H := hP
  have hD : va_D A [(hH, .inl (cB, 48, .inl tf)), (h0, .inr (8, [.int (nI k), .long wm, .ref hC, wv, wn, .ref hH, wx, wy, .int d])), (hC, .inl (cI, 6, .inl cf))] := hD
  have hK : va_K (dC, dI) vwCl [(cB, .byte), (cI, .int), (cJ, .long), (cZ, .boolean)] s := hK
  have er_1 : r_1 = 0 := hw
  rw [er_1]
  refine lv_if_eq (tgt := 36) hx hb dX7_holds_5 (by decide) (fun c_2 => ?_) (fun c_2 => ?_)
  · skip
    refine lv_iconst (v := 0) hx hb dX7_holds_36 (by decide) ?_
    have hP9 := hP.sub (ws' := [(h0, .inr (8, [.int (nI k), .long wm, .ref hC, wv, wn, .ref hH, wx, wy, .int d])), (hC, .inl (cI, 6, .inl cf)), (hH, .inl (cB, 48, .inl tf))]) [1, 2, 0] rfl
    have hD9 := hD.sub (ws' := [(h0, .inr (8, [.int (nI k), .long wm, .ref hC, wv, wn, .ref hH, wx, wy, .int d])), (hC, .inl (cI, 6, .inl cf)), (hH, .inl (cB, 48, .inl tf))]) [1, 2, 0] (by decide) rfl
    have hK9 := hK.sub (tys' := [(cB, .byte), (cI, .int), (cJ, .long), (cZ, .boolean)]) [0, 1, 2, 3] rfl
    exact W.zret (v := 0) hx hb hr (by rfl) (fun t_ ht hW => ⟨⟨0, (), rfl, rfl, by rw [ht]; exact hP9, va_K.moved hW.alike hK9, hD9⟩, hS.F ht⟩) hS.2.2 dX7_holds_37
  · skip
    exact absurd c_2 (by decide)
theorem dX7_rowCount_0 : decode cX7_rowCount 0 = .ok (.iconst 0, 1) := by decide +kernel
theorem dX7_rowCount_1 : decode cX7_rowCount 1 = .ok (.istore_n 1, 1) := by decide +kernel
theorem dX7_rowCount_2 : decode cX7_rowCount 2 = .ok (.iconst 0, 1) := by decide +kernel
theorem dX7_rowCount_3 : decode cX7_rowCount 3 = .ok (.istore_n 2, 1) := by decide +kernel
theorem dX7_rowCount_4 : decode cX7_rowCount 4 = .ok (.iload_n 2, 1) := by decide +kernel
theorem dX7_rowCount_5 : decode cX7_rowCount 5 = .ok (.aload_n 0, 1) := by decide +kernel
theorem dX7_rowCount_6 : decode cX7_rowCount 6 = .ok (.getfield 31, 3) := by decide +kernel
theorem dX7_rowCount_9 : decode cX7_rowCount 9 = .ok (.arraylength, 1) := by decide +kernel
theorem dX7_rowCount_10 : decode cX7_rowCount 10 = .ok (.if_icmp .ge 18, 3) := by decide +kernel
theorem dX7_rowCount_13 : decode cX7_rowCount 13 = .ok (.iload_n 1, 1) := by decide +kernel
theorem dX7_rowCount_14 : decode cX7_rowCount 14 = .ok (.aload_n 0, 1) := by decide +kernel
theorem dX7_rowCount_15 : decode cX7_rowCount 15 = .ok (.getfield 31, 3) := by decide +kernel
theorem dX7_rowCount_18 : decode cX7_rowCount 18 = .ok (.iload_n 2, 1) := by decide +kernel
theorem dX7_rowCount_19 : decode cX7_rowCount 19 = .ok (.baload, 1) := by decide +kernel
theorem dX7_rowCount_20 : decode cX7_rowCount 20 = .ok (.iadd, 1) := by decide +kernel
theorem dX7_rowCount_21 : decode cX7_rowCount 21 = .ok (.istore_n 1, 1) := by decide +kernel
theorem dX7_rowCount_22 : decode cX7_rowCount 22 = .ok (.iinc 2 1, 3) := by decide +kernel
theorem dX7_rowCount_25 : decode cX7_rowCount 25 = .ok (.goto (-21), 3) := by decide +kernel
theorem dX7_rowCount_28 : decode cX7_rowCount 28 = .ok (.iload_n 1, 1) := by decide +kernel
theorem dX7_rowCount_29 : decode cX7_rowCount 29 = .ok (.ireturn, 1) := by decide +kernel
abbrev cs_t_X7_rowCount (cB cI cJ cZ : ClassId) (h0 hH : Nat) (k : Int32) (tf : Nat → Int32) (wm : Int64) (wc wv wn wx wy : Value) (d : Int32) : va_W := [(h0, .inr (8, [.int k, .long wm, wc, wv, wn, .ref hH, wx, wy, .int d])), (hH, .inl (cB, 48, .inl tf))]
abbrev pc_t_X7_rowCount (dC : Nat → ClassId) (dI : Nat → Nat → Nat) (sz : Nat) (cB cI cJ cZ : ClassId) (h0 hH : Nat) (k : Int32) (tf : Nat → Int32) (wm : Int64) (wc wv wn wx wy : Value) (d : Int32) : Array Value → State → Prop := va_Pc [.ref h0] (fun U => U.heap.size = sz ∧ va_P (dC, dI) vwCl [(h0, .inr (8, [.int k, .long wm, wc, wv, wn, .ref hH, wx, wy, .int d])), (hH, .inl (cB, 48, .inl tf))] U.heap ∧ va_K (dC, dI) vwCl [(cB, .byte), (cI, .int), (cJ, .long), (cZ, .boolean)] U ∧ va_D (fun _ => True) [(h0, .inr (8, [.int k, .long wm, wc, wv, wn, .ref hH, wx, wy, .int d])), (hH, .inl (cB, 48, .inl tf))])
abbrev qc_t_X7_rowCount (dC : Nat → ClassId) (dI : Nat → Nat → Nat) (cB cI cJ cZ : ClassId) (h0 hH : Nat) (k : Int32) (tf : Nat → Int32) (wm : Int64) (wc wv wn wx wy : Value) (d : Int32) (A : Nat → Prop) : Array Value → State → Outcome → State → Prop := va_Qi (fun (r : Int32) (u : Unit) => match u with | _ => r = sumI tf 48) (fun (u : Unit) t_ => match u with | _ => va_P (dC, dI) vwCl [(h0, .inr (8, [.int k, .long wm, wc, wv, wn, .ref hH, wx, wy, .int d])), (hH, .inl (cB, 48, .inl tf))] t_.heap ∧ va_K (dC, dI) vwCl [(cB, .byte), (cI, .int), (cJ, .long), (cZ, .boolean)] t_ ∧ va_D A [(h0, .inr (8, [.int k, .long wm, wc, wv, wn, .ref hH, wx, wy, .int d])), (hH, .inl (cB, 48, .inl tf))]) A
set_option maxHeartbeats 4000000 in
set_option maxRecDepth 100000 in
theorem t_X7_rowCount (l : Launch) (dC : Nat → ClassId) (dI : Nat → Nat → Nat) (sz : Nat) (cB cI cJ cZ : ClassId) (h0 hH : Nat) (k : Int32) (tf : Nat → Int32) (wm : Int64) (wc wv wn wx wy : Value) (d : Int32)  : Met l yX7_rowCount (wsOf yX7_rowCount cX7_rowCount 3 (some .int)) ({ frames := 0, cells := 0, slots := 0, locals := 0 }) (pc_t_X7_rowCount dC dI sz cB cI cJ cZ h0 hH k tf wm wc wv wn wx wy d) (qc_t_X7_rowCount dC dI cB cI cJ cZ h0 hH k tf wm wc wv wn wx wy d (va_A (cs_t_X7_rowCount cB cI cJ cZ h0 hH k tf wm wc wv wn wx wy d) sz)) 0 0 (va_A (cs_t_X7_rowCount cB cI cJ cZ h0 hH k tf wm wc wv wn wx wy d) sz) := by
  refine Met.ofW (cc := cX7_rowCount) (maxL := 3) (ret := (some .int)) (by decide) rfl ?_
  intro p e s m args below meth c s₁ B hml hv
  obtain ⟨rfl, hsz, hP, hK, hD0⟩ := hv
  have hx := B.exec
  have hb := B.bytes
  have hr := B.returns
  have hts := atoms_spec (ws := (wsOf yX7_rowCount cX7_rowCount 3 (some .int))) B.pre
  have hown : s.vm.findClass RX7 = some m.cls := findClass_of_methodNamed B.named
  have hlocks := B.notSynchronized
  subst hsz
  have hD := hD0.self (sz := s.heap.size)
  generalize hAe : va_A (cs_t_X7_rowCount cB cI cJ cZ h0 hH k tf wm wc wv wn wx wy d) s.heap.size = A at hD ⊢
  have hA : ∀ q : Nat, s.heap.size ≤ q → A q := fun q h => by rw [← hAe]; exact Or.inr h
  have hS : va_S A s.heap s.heap [] := va_S.rf
  have hP : va_P (dC, dI) vwCl [(h0, .inr (8, [.int k, .long wm, wc, wv, wn, .ref hH, wx, wy, .int d])), (hH, .inl (cB, 48, .inl tf))] s.heap := hP
  have hl := lv_entry ([.ref h0]) (n := 3) (Nat.le_of_ble_eq_true rfl)
  rw [lg_entry_eq]
  generalize (lg_sl ([.ref h0]) ++ List.replicate (3 - (lg_sl ([.ref h0])).length) Slot.unset).toArray = ls at hl ⊢
  have hl : lv_has ls 3 [(0, .ref h0)] := hl
  refine lv_iconst (v := 0) hx hb dX7_rowCount_0 (by decide) ?_
  refine lv_istore_n (lv' := [(1, .int 0), (0, .ref h0)]) hx hb dX7_rowCount_1 rfl hl (by decide) rfl (fun ls hl => ?_)
  refine lv_iconst (v := 0) hx hb dX7_rowCount_2 (by decide) ?_
  refine lv_istore_n (lv' := [(2, .int 0), (1, .int 0), (0, .ref h0)]) hx hb dX7_rowCount_3 rfl hl (by decide) rfl (fun ls hl => ?_)
  have lp_4 : ∀ (n_ : Nat) (j : Nat) (x : Int32), j ≤ 48 → x = sumI tf j → 48 - j < n_ → ∀ (H : Heap) (locs : List Loc) (ls : Array Slot), va_P (dC, dI) vwCl [(h0, .inr (8, [.int k, .long wm, wc, wv, wn, .ref hH, wx, wy, .int d])), (hH, .inl (cB, 48, .inl tf))] H → va_D A [(h0, .inr (8, [.int k, .long wm, wc, wv, wn, .ref hH, wx, wy, .int d])), (hH, .inl (cB, 48, .inl tf))] → va_S A s.heap H locs → lv_has ls 3 [(2, .int (nI j)), (1, .int x), (0, .ref h0)] → W p l e (headSpec (wsOf yX7_rowCount cX7_rowCount 3 (some .int)) ({ frames := 0, cells := 0, slots := 0, locals := 0 })).room s m ([.ref h0] : List Value).toArray below meth c H locs 0 0 (MQ below (qc_t_X7_rowCount dC dI cB cI cJ cZ h0 hH k tf wm wc wv wn wx wy d A) ([.ref h0] : List Value).toArray s 0 0 A) (F0 m 4 ls []) := by
    intro n_
    induction n_ with
    | zero => intro j x hj hxs hm; exact absurd hm (Nat.not_lt_zero _)
    | succ n_ ih_4 =>
      intro j x hj hxs hm H locs ls hP hD hS hl
      refine lv_iload_n hx hb dX7_rowCount_4 rfl (lv_at hl 0 rfl) ?_
      refine lv_aload_n hx hb dX7_rowCount_5 rfl (lv_at hl 2 rfl) ?_
      refine va_get (D := (dC, dI)) (ci := 8) (v := .ref hH) (C := RX7) (T := TX7) (N := 9) hx hb hts (fun w h => List.mem_cons_of_mem _ (uG_X7 w h)) hown hK hP 0 rfl rfl 5 (by decide) (hts _ (List.mem_cons_of_mem _ kw_230)) (fun _ h9 => h9) rfl dX7_rowCount_6 ?_
      refine va_alen (v := 48) hx hb hK hP 1 0 rfl rfl rfl dX7_rowCount_9 ?_
      refine lv_icmp_ge (tgt := 28) hx hb dX7_rowCount_10 (by decide) (fun c_1 => ?_) (fun c_1 => ?_)
      · skip
        have c_1 : 48 ≤ j := (nI_leI (a := 48) (b := j) (by omega) (by omega)).mp c_1
        refine lv_iload_n hx hb dX7_rowCount_28 rfl (lv_at hl 1 rfl) ?_
        have hP9 := hP.sub (ws' := [(h0, .inr (8, [.int k, .long wm, wc, wv, wn, .ref hH, wx, wy, .int d])), (hH, .inl (cB, 48, .inl tf))]) [0, 1] rfl
        have hD9 := hD.sub (ws' := [(h0, .inr (8, [.int k, .long wm, wc, wv, wn, .ref hH, wx, wy, .int d])), (hH, .inl (cB, 48, .inl tf))]) [0, 1] (by decide) rfl
        have hK9 := hK.sub (tys' := [(cB, .byte), (cI, .int), (cJ, .long), (cZ, .boolean)]) [0, 1, 2, 3] rfl
        exact W.iret (v := x) hx hb hr (fun t_ ht hW => ⟨⟨x, (), rfl, by rw [hxs]; rw [show j = 48 by omega], by rw [ht]; exact hP9, va_K.moved hW.alike hK9, hD9⟩, hS.F ht⟩) hS.2.2 dX7_rowCount_29
      · skip
        have c_1 : ¬ (48 ≤ j) := fun h => c_1 ((nI_leI (a := 48) (b := j) (by omega) (by omega)).mpr h)
        refine lv_iload_n hx hb dX7_rowCount_13 rfl (lv_at hl 1 rfl) ?_
        refine lv_aload_n hx hb dX7_rowCount_14 rfl (lv_at hl 2 rfl) ?_
        refine va_get (D := (dC, dI)) (ci := 8) (v := .ref hH) (C := RX7) (T := TX7) (N := 9) hx hb hts (fun w h => List.mem_cons_of_mem _ (uG_X7 w h)) hown hK hP 0 rfl rfl 5 (by decide) (hts _ (List.mem_cons_of_mem _ kw_230)) (fun _ h9 => h9) rfl dX7_rowCount_15 ?_
        refine lv_iload_n hx hb dX7_rowCount_18 rfl (lv_at hl 0 rfl) ?_
        refine va_bald hx hb hK hP 1 0 rfl rfl (i := (nI j)) (vp_in_nI (n := j) (N := 48) (by omega) (by omega)) dX7_rowCount_19 ?_
        refine lv_topi (fun x_2 ex_2 => ?_)
        have ex_2 : x_2 = tf j := ex_2.trans (congrArg tf (nI_clamp (n := j) (by omega)))
        subst ex_2
        refine lv_iadd hx hb dX7_rowCount_20 ?_
        refine lv_istore_n (lv' := [(1, .int (x + (tf j))), (2, .int (nI j)), (0, .ref h0)]) hx hb dX7_rowCount_21 rfl hl (by decide) rfl (fun ls hl => ?_)
        refine lv_iinc (v := nI (j + 1)) (lv' := [(2, .int (nI (j + 1))), (1, .int (x + (tf j))), (0, .ref h0)]) hx hb dX7_rowCount_22 hl (k := 1) rfl (nI_add j 1) (by decide) rfl (fun ls hl => ?_)
        refine lv_goto (tgt := 4) hx hb dX7_rowCount_25 (by decide) ?_
        exact ih_4 (j + 1) (x + tf j) (by omega) (by rw [hxs]; rfl) (by omega) _ _ _ (hP.sub [0, 1] rfl) (hD.sub [0, 1] (by decide) rfl) hS (lv_sub hl [0, 1, 2] rfl)
  exact lp_4 _ 0 0 (by omega) rfl (Nat.lt_succ_self _) _ _ _ (hP.sub [0, 1] rfl) (hD.sub [0, 1] (by decide) rfl) hS (lv_sub hl [0, 1, 2] rfl)

